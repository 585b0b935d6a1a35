set_option maxRecDepth 100000 in
set_option maxHeartbeats 4000000 in
theorem law_addCore {p : Program} {l : Launch} {e : Env} {s : State} {m : MethodId} {below : List Frame} {meth : Method} {c : Code} {b L : Nat} {xs : Nat → Int32} {D : va_G} {cs : mC} {df : Nat} {A : Nat → Prop} (C : LC p l s m c b L xs D cs df A) {Rl : Nat → KS → KS → Prop} (R : SimP Rl) {c0 m0 o1 o2 : Nat} {σ μ : KS} {h : mH} {H : Heap} {locs : List Loc} {cells slots : Nat} {Q : State → Prop} (hV : mV D h A H) (hS : va_S A s.heap H locs) (hW : DSt cs df c0 m0 o1 o2 σ μ h) {j : Nat} (hj : j < 512) (hr : Rl j σ μ) {i : Nat} (hi : i + 5 ≤ L) {ls : Array Slot} (hl : lv_has ls 9 (lawL b c0 m0 o1 o2 i)) (hc : cells + 8 ≤ 603072) (hs : slots + 400 ≤ 7223402) (kk : ∀ (σ1 μ1 : KS) (h1 : mH) (H1 : Heap) (locs1 : List Loc) (ls1 : Array Slot), mV D h1 A H1 → va_S A s.heap H1 locs1 → DSt cs df c0 m0 o1 o2 σ1 μ1 h1 → Rl (j + 1) σ1 μ1 → lv_has ls1 9 (lawL b c0 m0 o1 o2 i) → W p l e room_1 s m #[Value.ref b] below meth c H1 locs1 (cells + 8) (slots + 400) Q (F0 m 1902 ls1 [])) : W p l e room_1 s m #[Value.ref b] below meth c H locs cells slots Q (F0 m 192 ls []) := by
  obtain ⟨hx, hb, hml, hown, hts, hX, hbl, hbA, hE, hN, hA, hfl, hL⟩ := C
  have hK := hE.1.1
  have hw0 := hW.wf
  have i1 : vp_in (nI i + 1) L := lw_in (k := 1) (by decide) hi hL
  have i2 : vp_in (nI i + 2) L := lw_in (k := 2) (by decide) hi hL
  have i3 : vp_in (nI i + 3) L := lw_in (k := 3) (by decide) hi hL
  have i4 : vp_in (nI i + 4) L := lw_in (k := 4) (by decide) hi hL
  refine lv_aload_n hx hb dL_law_192 rfl (lv_at hl 1 rfl) ?_
  refine lv_aload_n hx hb dL_law_193 rfl (lv_at hl 0 rfl) ?_
  refine lv_iload hx hb dL_law_194 (lv_at hl 5 rfl) ?_
  refine lv_iconst (v := 1) hx hb dL_law_196 (by decide) ?_
  refine lv_iadd hx hb dL_law_197 ?_
  refine va_sld hx hb hX hbl hbA hS (i := nI i + 1) i1 dL_law_198 ?_
  refine lv_aload_n hx hb dL_law_199 rfl (lv_at hl 3 rfl) ?_
  refine m_calli (vx_runSW (As := [.ref c0, .int (xs (nI i + 1).toNatClampNeg), .ref o1]) (rest := []) ⟨hx, hb, hml, hown, hts⟩ (w_L_addCore (l := l) hfl (D := D) (H.size) hW (xs (nI i + 1).toNatClampNeg) ) (vx_cwSW 3 hts (goodIn_l gL_law_L_addCore) rfl rfl rfl (by decide +kernel) ⟨Nat.le_of_ble_eq_true rfl, Nat.le_of_ble_eq_true rfl⟩) (l_preS hN hE hV hS hA) rfl rfl hl.1 rfl (lv_room (by first | exact Nat.le_of_ble_eq_true rfl | simp [rf_cat, ct_ref, ct_int, ct_null, ct_long])) dL_law_200 (room_c hc hs (by omega) (by omega))) hV hS hA (fun r h1 H locs hV hS hp _ => ?_)
  obtain ⟨σ1, v, hW, hrow, hoc⟩ := hp
  refine lv_istore (lv' := [(6, .int r), (0, .ref b), (1, .ref c0), (2, .ref m0), (3, .ref o1), (4, .ref o2), (5, .int (nI i))]) hx hb dL_law_203 hl (by decide) rfl (fun ls hl => ?_)
  refine lv_aload_n hx hb dL_law_205 rfl (lv_at hl 3 rfl) ?_
  refine lv_aload_n hx hb dL_law_206 rfl (lv_at hl 1 rfl) ?_
  refine lv_iload hx hb dL_law_207 (lv_at hl 6 rfl) ?_
  refine lv_iconst (v := 1) hx hb dL_law_209 (by decide) ?_
  refine lv_iadd hx hb dL_law_210 ?_
  refine va_sld hx hb hX hbl hbA hS (i := nI i + 1) i1 dL_law_211 ?_
  obtain ⟨fs, hf⟩ := hW.m0
  refine m_calli (va_runV (As := [.int (xs (nI i + 1).toNatClampNeg)]) (rest := []) ⟨hx, hb, hml, hown, hts⟩ (w_X5_addCore (l := l) (H.size) hW (xs (nI i + 1).toNatClampNeg) ) (cwV 1 hts (gL_law_X5_addCore.up wsL_law_in) rfl rfl rfl (by decide +kernel) ⟨Nat.le_of_ble_eq_true rfl, Nat.le_of_ble_eq_true rfl⟩) (m_preV (r := (RX5, TX5, 34)) hE hV hS hA hf rfl) rfl rfl hl.1 rfl (lv_room (by exact Nat.le_of_ble_eq_true rfl)) dL_law_212 (room_c hc hs (by omega) (by omega))) hV hS hA (fun b2 h2 H locs hV hS hp _ => ?_)
  obtain ⟨μ1, hW, k1, k2, hom⟩ := hp
  refine lv_istore (lv' := [(7, .int b2), (6, .int r), (0, .ref b), (1, .ref c0), (2, .ref m0), (3, .ref o1), (4, .ref o2), (5, .int (nI i))]) hx hb dL_law_215 hl (by decide) rfl (fun ls hl => ?_)
  refine lv_aload_n hx hb dL_law_217 rfl (lv_at hl 4 rfl) ?_
  obtain ⟨fs, hf⟩ := hW.m0
  refine m_calli (va_runV (As := []) (rest := []) ⟨hx, hb, hml, hown, hts⟩ (w_X5_thrown (l := l) (H.size) hW) (cwV 0 hts (gL_law_X5_thrown.up wsL_law_in) rfl rfl rfl (by decide +kernel) ⟨Nat.le_of_ble_eq_true rfl, Nat.le_of_ble_eq_true rfl⟩) (m_preV (r := (RX5, TX5, 34)) hE hV hS hA hf rfl) rfl rfl hl.1 rfl (lv_room (by exact Nat.le_of_ble_eq_true rfl)) dL_law_218 (room_c hc hs (by omega) (by omega))) hV hS hA (fun r3 h3 H locs hV hS hp _ => ?_)
  obtain ⟨e3, e4⟩ := hp
  rw [e3] at hV
  clear e3
  subst e4
  refine lv_iload hx hb dL_law_221 (lv_at hl 1 rfl) ?_
  obtain ⟨hr1, hth, hval⟩ := R.s_addCore _ _ _ _ _ _ _ _ _ hj hw0 hr hoc hom hW.wf
  refine lv_icmp_eq (tgt := 228) hx hb dL_law_223 (by decide) (fun _ => ?_) (fun z => absurd hth z)
  refine lv_iload hx hb dL_law_228 (lv_at hl 1 rfl) ?_
  have kq := kk _ _ _ _ _ _ hV hS hW hr1 (lv_sub hl [2, 3, 4, 5, 6, 7] rfl)
  refine lv_if_ne (tgt := 245) hx hb dL_law_230 (by decide) (fun c9 => ?_) (fun c9 => ?_)
  · exact lv_goto (tgt := 1902) hx hb dL_law_245 (by decide) (W.widen (by omega) (by omega) kq)
  have r0 : r = 0 := c9
  have hv := hval r0
  obtain ⟨f, hrow, hf0⟩ := hrow r0
  refine lv_aload_n hx hb dL_law_233 rfl (lv_at hl 5 rfl) ?_
  refine lv_iconst (v := 0) hx hb dL_law_234 (by decide) ?_
  refine m_lald hx hb hK hV 1 (i := 0) (f := f) (x := v) (by rw [k1]; exact hrow) rfl (show vp_in (nI 0) 1 from vp_in_nI (by decide) (by decide)) (by rw [← hf0]; rfl) dL_law_235 ?_
  refine lv_iload hx hb dL_law_236 (lv_at hl 0 rfl) ?_
  refine lv_i2l (v := (b2).toInt64) hx hb dL_law_238 rfl ?_
  refine m_lcmp_eq (tgt := 245) hx hb dL_law_239 dL_law_240 (by decide) (fun _ => ?_) (fun z => absurd hv z)
  refine lv_goto (tgt := 1902) hx hb dL_law_245 (by decide) ?_
  exact W.widen (by omega) (by omega) kq
set_option maxRecDepth 100000 in
set_option maxHeartbeats 4000000 in
theorem law_setLimit {p : Program} {l : Launch} {e : Env} {s : State} {m : MethodId} {below : List Frame} {meth : Method} {c : Code} {b L : Nat} {xs : Nat → Int32} {D : va_G} {cs : mC} {df : Nat} {A : Nat → Prop} (C : LC p l s m c b L xs D cs df A) {Rl : Nat → KS → KS → Prop} (R : SimP Rl) {c0 m0 o1 o2 : Nat} {σ μ : KS} {h : mH} {H : Heap} {locs : List Loc} {cells slots : Nat} {Q : State → Prop} (hV : mV D h A H) (hS : va_S A s.heap H locs) (hW : DSt cs df c0 m0 o1 o2 σ μ h) {j : Nat} (hj : j < 512) (hr : Rl j σ μ) {i : Nat} (hi : i + 5 ≤ L) {ls : Array Slot} (hl : lv_has ls 9 (lawL b c0 m0 o1 o2 i)) (hc : cells + 8 ≤ 603072) (hs : slots + 400 ≤ 7223402) (kk : ∀ (σ1 μ1 : KS) (h1 : mH) (H1 : Heap) (locs1 : List Loc) (ls1 : Array Slot), mV D h1 A H1 → va_S A s.heap H1 locs1 → DSt cs df c0 m0 o1 o2 σ1 μ1 h1 → Rl (j + 1) σ1 μ1 → lv_has ls1 9 (lawL b c0 m0 o1 o2 i) → W p l e room_1 s m #[Value.ref b] below meth c H1 locs1 (cells + 8) (slots + 400) Q (F0 m 1902 ls1 [])) : W p l e room_1 s m #[Value.ref b] below meth c H locs cells slots Q (F0 m 248 ls []) := by
  obtain ⟨hx, hb, hml, hown, hts, hX, hbl, hbA, hE, hN, hA, hfl, hL⟩ := C
  have hK := hE.1.1
  have hw0 := hW.wf
  have i1 : vp_in (nI i + 1) L := lw_in (k := 1) (by decide) hi hL
  have i2 : vp_in (nI i + 2) L := lw_in (k := 2) (by decide) hi hL
  have i3 : vp_in (nI i + 3) L := lw_in (k := 3) (by decide) hi hL
  have i4 : vp_in (nI i + 4) L := lw_in (k := 4) (by decide) hi hL
  refine lv_aload_n hx hb dL_law_248 rfl (lv_at hl 1 rfl) ?_
  refine lv_aload_n hx hb dL_law_249 rfl (lv_at hl 0 rfl) ?_
  refine lv_iload hx hb dL_law_250 (lv_at hl 5 rfl) ?_
  refine lv_iconst (v := 1) hx hb dL_law_252 (by decide) ?_
  refine lv_iadd hx hb dL_law_253 ?_
  refine va_sld hx hb hX hbl hbA hS (i := nI i + 1) i1 dL_law_254 ?_
  refine lv_aload_n hx hb dL_law_255 rfl (lv_at hl 3 rfl) ?_
  refine m_calli (vx_runSW (As := [.ref c0, .int (xs (nI i + 1).toNatClampNeg), .ref o1]) (rest := []) ⟨hx, hb, hml, hown, hts⟩ (w_L_setLimit (l := l) hfl (D := D) (H.size) hW (xs (nI i + 1).toNatClampNeg) ) (vx_cwSW 3 hts (goodIn_l gL_law_L_setLimit) rfl rfl rfl (by decide +kernel) ⟨Nat.le_of_ble_eq_true rfl, Nat.le_of_ble_eq_true rfl⟩) (l_preS hN hE hV hS hA) rfl rfl hl.1 rfl (lv_room (by first | exact Nat.le_of_ble_eq_true rfl | simp [rf_cat, ct_ref, ct_int, ct_null, ct_long])) dL_law_256 (room_c hc hs (by omega) (by omega))) hV hS hA (fun r h1 H locs hV hS hp _ => ?_)
  obtain ⟨σ1, v, hW, hrow, hoc⟩ := hp
  refine lv_istore (lv' := [(6, .int r), (0, .ref b), (1, .ref c0), (2, .ref m0), (3, .ref o1), (4, .ref o2), (5, .int (nI i))]) hx hb dL_law_259 hl (by decide) rfl (fun ls hl => ?_)
  refine lv_aload_n hx hb dL_law_261 rfl (lv_at hl 3 rfl) ?_
  refine lv_aload_n hx hb dL_law_262 rfl (lv_at hl 1 rfl) ?_
  refine lv_iload hx hb dL_law_263 (lv_at hl 6 rfl) ?_
  refine lv_iconst (v := 1) hx hb dL_law_265 (by decide) ?_
  refine lv_iadd hx hb dL_law_266 ?_
  refine va_sld hx hb hX hbl hbA hS (i := nI i + 1) i1 dL_law_267 ?_
  obtain ⟨fs, hf⟩ := hW.m0
  refine m_calli (va_runV (As := [.int (xs (nI i + 1).toNatClampNeg)]) (rest := []) ⟨hx, hb, hml, hown, hts⟩ (w_X5_setLimit (l := l) (H.size) hW (xs (nI i + 1).toNatClampNeg) ) (cwV 1 hts (gL_law_X5_setLimit.up wsL_law_in) rfl rfl rfl (by decide +kernel) ⟨Nat.le_of_ble_eq_true rfl, Nat.le_of_ble_eq_true rfl⟩) (m_preV (r := (RX5, TX5, 34)) hE hV hS hA hf rfl) rfl rfl hl.1 rfl (lv_room (by exact Nat.le_of_ble_eq_true rfl)) dL_law_268 (room_c hc hs (by omega) (by omega))) hV hS hA (fun b2 h2 H locs hV hS hp _ => ?_)
  obtain ⟨μ1, hW, k1, k2, hom⟩ := hp
  refine lv_istore (lv' := [(7, .int b2), (6, .int r), (0, .ref b), (1, .ref c0), (2, .ref m0), (3, .ref o1), (4, .ref o2), (5, .int (nI i))]) hx hb dL_law_271 hl (by decide) rfl (fun ls hl => ?_)
  refine lv_aload_n hx hb dL_law_273 rfl (lv_at hl 4 rfl) ?_
  obtain ⟨fs, hf⟩ := hW.m0
  refine m_calli (va_runV (As := []) (rest := []) ⟨hx, hb, hml, hown, hts⟩ (w_X5_thrown (l := l) (H.size) hW) (cwV 0 hts (gL_law_X5_thrown.up wsL_law_in) rfl rfl rfl (by decide +kernel) ⟨Nat.le_of_ble_eq_true rfl, Nat.le_of_ble_eq_true rfl⟩) (m_preV (r := (RX5, TX5, 34)) hE hV hS hA hf rfl) rfl rfl hl.1 rfl (lv_room (by exact Nat.le_of_ble_eq_true rfl)) dL_law_274 (room_c hc hs (by omega) (by omega))) hV hS hA (fun r3 h3 H locs hV hS hp _ => ?_)
  obtain ⟨e3, e4⟩ := hp
  rw [e3] at hV
  clear e3
  subst e4
  refine lv_iload hx hb dL_law_277 (lv_at hl 1 rfl) ?_
  obtain ⟨hr1, hth, hval⟩ := R.s_setLimit _ _ _ _ _ _ _ _ _ hj hw0 hr hoc hom hW.wf
  refine lv_icmp_eq (tgt := 284) hx hb dL_law_279 (by decide) (fun _ => ?_) (fun z => absurd hth z)
  refine lv_iload hx hb dL_law_284 (lv_at hl 1 rfl) ?_
  have kq := kk _ _ _ _ _ _ hV hS hW hr1 (lv_sub hl [2, 3, 4, 5, 6, 7] rfl)
  refine lv_if_ne (tgt := 301) hx hb dL_law_286 (by decide) (fun c9 => ?_) (fun c9 => ?_)
  · exact lv_goto (tgt := 1902) hx hb dL_law_301 (by decide) (W.widen (by omega) (by omega) kq)
  have r0 : r = 0 := c9
  have hv := hval r0
  obtain ⟨f, hrow, hf0⟩ := hrow r0
  refine lv_aload_n hx hb dL_law_289 rfl (lv_at hl 5 rfl) ?_
  refine lv_iconst (v := 0) hx hb dL_law_290 (by decide) ?_
  refine m_lald hx hb hK hV 1 (i := 0) (f := f) (x := v) (by rw [k1]; exact hrow) rfl (show vp_in (nI 0) 1 from vp_in_nI (by decide) (by decide)) (by rw [← hf0]; rfl) dL_law_291 ?_
  refine lv_iload hx hb dL_law_292 (lv_at hl 0 rfl) ?_
  refine lv_i2l (v := (b2).toInt64) hx hb dL_law_294 rfl ?_
  refine m_lcmp_eq (tgt := 301) hx hb dL_law_295 dL_law_296 (by decide) (fun _ => ?_) (fun z => absurd hv z)
  refine lv_goto (tgt := 1902) hx hb dL_law_301 (by decide) ?_
  exact W.widen (by omega) (by omega) kq
set_option maxRecDepth 100000 in
set_option maxHeartbeats 4000000 in
theorem law_setCap {p : Program} {l : Launch} {e : Env} {s : State} {m : MethodId} {below : List Frame} {meth : Method} {c : Code} {b L : Nat} {xs : Nat → Int32} {D : va_G} {cs : mC} {df : Nat} {A : Nat → Prop} (C : LC p l s m c b L xs D cs df A) {Rl : Nat → KS → KS → Prop} (R : SimP Rl) {c0 m0 o1 o2 : Nat} {σ μ : KS} {h : mH} {H : Heap} {locs : List Loc} {cells slots : Nat} {Q : State → Prop} (hV : mV D h A H) (hS : va_S A s.heap H locs) (hW : DSt cs df c0 m0 o1 o2 σ μ h) {j : Nat} (hj : j < 512) (hr : Rl j σ μ) {i : Nat} (hi : i + 5 ≤ L) {ls : Array Slot} (hl : lv_has ls 9 (lawL b c0 m0 o1 o2 i)) (hc : cells + 8 ≤ 603072) (hs : slots + 400 ≤ 7223402) (kk : ∀ (σ1 μ1 : KS) (h1 : mH) (H1 : Heap) (locs1 : List Loc) (ls1 : Array Slot), mV D h1 A H1 → va_S A s.heap H1 locs1 → DSt cs df c0 m0 o1 o2 σ1 μ1 h1 → Rl (j + 1) σ1 μ1 → lv_has ls1 9 (lawL b c0 m0 o1 o2 i) → W p l e room_1 s m #[Value.ref b] below meth c H1 locs1 (cells + 8) (slots + 400) Q (F0 m 1902 ls1 [])) : W p l e room_1 s m #[Value.ref b] below meth c H locs cells slots Q (F0 m 304 ls []) := by
  obtain ⟨hx, hb, hml, hown, hts, hX, hbl, hbA, hE, hN, hA, hfl, hL⟩ := C
  have hK := hE.1.1
  have hw0 := hW.wf
  have i1 : vp_in (nI i + 1) L := lw_in (k := 1) (by decide) hi hL
  have i2 : vp_in (nI i + 2) L := lw_in (k := 2) (by decide) hi hL
  have i3 : vp_in (nI i + 3) L := lw_in (k := 3) (by decide) hi hL
  have i4 : vp_in (nI i + 4) L := lw_in (k := 4) (by decide) hi hL
  refine lv_aload_n hx hb dL_law_304 rfl (lv_at hl 1 rfl) ?_
  refine lv_aload_n hx hb dL_law_305 rfl (lv_at hl 0 rfl) ?_
  refine lv_iload hx hb dL_law_306 (lv_at hl 5 rfl) ?_
  refine lv_iconst (v := 1) hx hb dL_law_308 (by decide) ?_
  refine lv_iadd hx hb dL_law_309 ?_
  refine va_sld hx hb hX hbl hbA hS (i := nI i + 1) i1 dL_law_310 ?_
  refine lv_aload_n hx hb dL_law_311 rfl (lv_at hl 3 rfl) ?_
  refine m_calli (vx_runSW (As := [.ref c0, .int (xs (nI i + 1).toNatClampNeg), .ref o1]) (rest := []) ⟨hx, hb, hml, hown, hts⟩ (w_L_setCap (l := l) hfl (D := D) (H.size) hW (xs (nI i + 1).toNatClampNeg) ) (vx_cwSW 3 hts (goodIn_l gL_law_L_setCap) rfl rfl rfl (by decide +kernel) ⟨Nat.le_of_ble_eq_true rfl, Nat.le_of_ble_eq_true rfl⟩) (l_preS hN hE hV hS hA) rfl rfl hl.1 rfl (lv_room (by first | exact Nat.le_of_ble_eq_true rfl | simp [rf_cat, ct_ref, ct_int, ct_null, ct_long])) dL_law_312 (room_c hc hs (by omega) (by omega))) hV hS hA (fun r h1 H locs hV hS hp _ => ?_)
  obtain ⟨σ1, v, hW, hrow, hoc⟩ := hp
  refine lv_istore (lv' := [(6, .int r), (0, .ref b), (1, .ref c0), (2, .ref m0), (3, .ref o1), (4, .ref o2), (5, .int (nI i))]) hx hb dL_law_315 hl (by decide) rfl (fun ls hl => ?_)
  refine lv_aload_n hx hb dL_law_317 rfl (lv_at hl 3 rfl) ?_
  refine lv_aload_n hx hb dL_law_318 rfl (lv_at hl 1 rfl) ?_
  refine lv_iload hx hb dL_law_319 (lv_at hl 6 rfl) ?_
  refine lv_iconst (v := 1) hx hb dL_law_321 (by decide) ?_
  refine lv_iadd hx hb dL_law_322 ?_
  refine va_sld hx hb hX hbl hbA hS (i := nI i + 1) i1 dL_law_323 ?_
  obtain ⟨fs, hf⟩ := hW.m0
  refine m_calli (va_runV (As := [.int (xs (nI i + 1).toNatClampNeg)]) (rest := []) ⟨hx, hb, hml, hown, hts⟩ (w_X5_setCap (l := l) (H.size) hW (xs (nI i + 1).toNatClampNeg) ) (cwV 1 hts (gL_law_X5_setCap.up wsL_law_in) rfl rfl rfl (by decide +kernel) ⟨Nat.le_of_ble_eq_true rfl, Nat.le_of_ble_eq_true rfl⟩) (m_preV (r := (RX5, TX5, 34)) hE hV hS hA hf rfl) rfl rfl hl.1 rfl (lv_room (by exact Nat.le_of_ble_eq_true rfl)) dL_law_324 (room_c hc hs (by omega) (by omega))) hV hS hA (fun b2 h2 H locs hV hS hp _ => ?_)
  obtain ⟨μ1, hW, k1, k2, hom⟩ := hp
  refine lv_istore (lv' := [(7, .int b2), (6, .int r), (0, .ref b), (1, .ref c0), (2, .ref m0), (3, .ref o1), (4, .ref o2), (5, .int (nI i))]) hx hb dL_law_327 hl (by decide) rfl (fun ls hl => ?_)
  refine lv_aload_n hx hb dL_law_329 rfl (lv_at hl 4 rfl) ?_
  obtain ⟨fs, hf⟩ := hW.m0
  refine m_calli (va_runV (As := []) (rest := []) ⟨hx, hb, hml, hown, hts⟩ (w_X5_thrown (l := l) (H.size) hW) (cwV 0 hts (gL_law_X5_thrown.up wsL_law_in) rfl rfl rfl (by decide +kernel) ⟨Nat.le_of_ble_eq_true rfl, Nat.le_of_ble_eq_true rfl⟩) (m_preV (r := (RX5, TX5, 34)) hE hV hS hA hf rfl) rfl rfl hl.1 rfl (lv_room (by exact Nat.le_of_ble_eq_true rfl)) dL_law_330 (room_c hc hs (by omega) (by omega))) hV hS hA (fun r3 h3 H locs hV hS hp _ => ?_)
  obtain ⟨e3, e4⟩ := hp
  rw [e3] at hV
  clear e3
  subst e4
  refine lv_iload hx hb dL_law_333 (lv_at hl 1 rfl) ?_
  obtain ⟨hr1, hth, hval⟩ := R.s_setCap _ _ _ _ _ _ _ _ _ hj hw0 hr hoc hom hW.wf
  refine lv_icmp_eq (tgt := 340) hx hb dL_law_335 (by decide) (fun _ => ?_) (fun z => absurd hth z)
  refine lv_iload hx hb dL_law_340 (lv_at hl 1 rfl) ?_
  have kq := kk _ _ _ _ _ _ hV hS hW hr1 (lv_sub hl [2, 3, 4, 5, 6, 7] rfl)
  refine lv_if_ne (tgt := 357) hx hb dL_law_342 (by decide) (fun c9 => ?_) (fun c9 => ?_)
  · exact lv_goto (tgt := 1902) hx hb dL_law_357 (by decide) (W.widen (by omega) (by omega) kq)
  have r0 : r = 0 := c9
  have hv := hval r0
  obtain ⟨f, hrow, hf0⟩ := hrow r0
  refine lv_aload_n hx hb dL_law_345 rfl (lv_at hl 5 rfl) ?_
  refine lv_iconst (v := 0) hx hb dL_law_346 (by decide) ?_
  refine m_lald hx hb hK hV 1 (i := 0) (f := f) (x := v) (by rw [k1]; exact hrow) rfl (show vp_in (nI 0) 1 from vp_in_nI (by decide) (by decide)) (by rw [← hf0]; rfl) dL_law_347 ?_
  refine lv_iload hx hb dL_law_348 (lv_at hl 0 rfl) ?_
  refine lv_i2l (v := (b2).toInt64) hx hb dL_law_350 rfl ?_
  refine m_lcmp_eq (tgt := 357) hx hb dL_law_351 dL_law_352 (by decide) (fun _ => ?_) (fun z => absurd hv z)
  refine lv_goto (tgt := 1902) hx hb dL_law_357 (by decide) ?_
  exact W.widen (by omega) (by omega) kq
set_option maxRecDepth 100000 in
set_option maxHeartbeats 4000000 in
theorem law_heat {p : Program} {l : Launch} {e : Env} {s : State} {m : MethodId} {below : List Frame} {meth : Method} {c : Code} {b L : Nat} {xs : Nat → Int32} {D : va_G} {cs : mC} {df : Nat} {A : Nat → Prop} (C : LC p l s m c b L xs D cs df A) {Rl : Nat → KS → KS → Prop} (R : SimP Rl) {c0 m0 o1 o2 : Nat} {σ μ : KS} {h : mH} {H : Heap} {locs : List Loc} {cells slots : Nat} {Q : State → Prop} (hV : mV D h A H) (hS : va_S A s.heap H locs) (hW : DSt cs df c0 m0 o1 o2 σ μ h) {j : Nat} (hj : j < 512) (hr : Rl j σ μ) {i : Nat} (hi : i + 5 ≤ L) {ls : Array Slot} (hl : lv_has ls 9 (lawL b c0 m0 o1 o2 i)) (hc : cells + 8 ≤ 603072) (hs : slots + 400 ≤ 7223402) (kk : ∀ (σ1 μ1 : KS) (h1 : mH) (H1 : Heap) (locs1 : List Loc) (ls1 : Array Slot), mV D h1 A H1 → va_S A s.heap H1 locs1 → DSt cs df c0 m0 o1 o2 σ1 μ1 h1 → Rl (j + 1) σ1 μ1 → lv_has ls1 9 (lawL b c0 m0 o1 o2 i) → W p l e room_1 s m #[Value.ref b] below meth c H1 locs1 (cells + 8) (slots + 400) Q (F0 m 1902 ls1 [])) : W p l e room_1 s m #[Value.ref b] below meth c H locs cells slots Q (F0 m 360 ls []) := by
  obtain ⟨hx, hb, hml, hown, hts, hX, hbl, hbA, hE, hN, hA, hfl, hL⟩ := C
  have hK := hE.1.1
  have hw0 := hW.wf
  have i1 : vp_in (nI i + 1) L := lw_in (k := 1) (by decide) hi hL
  have i2 : vp_in (nI i + 2) L := lw_in (k := 2) (by decide) hi hL
  have i3 : vp_in (nI i + 3) L := lw_in (k := 3) (by decide) hi hL
  have i4 : vp_in (nI i + 4) L := lw_in (k := 4) (by decide) hi hL
  refine lv_aload_n hx hb dL_law_360 rfl (lv_at hl 1 rfl) ?_
  refine lv_aload_n hx hb dL_law_361 rfl (lv_at hl 0 rfl) ?_
  refine lv_iload hx hb dL_law_362 (lv_at hl 5 rfl) ?_
  refine lv_iconst (v := 1) hx hb dL_law_364 (by decide) ?_
  refine lv_iadd hx hb dL_law_365 ?_
  refine va_sld hx hb hX hbl hbA hS (i := nI i + 1) i1 dL_law_366 ?_
  refine lv_aload_n hx hb dL_law_367 rfl (lv_at hl 3 rfl) ?_
  refine m_calli (vx_runSW (As := [.ref c0, .int (xs (nI i + 1).toNatClampNeg), .ref o1]) (rest := []) ⟨hx, hb, hml, hown, hts⟩ (w_L_heat (l := l) hfl (D := D) (H.size) hW (xs (nI i + 1).toNatClampNeg) ) (vx_cwSW 3 hts (goodIn_l gL_law_L_heat) rfl rfl rfl (by decide +kernel) ⟨Nat.le_of_ble_eq_true rfl, Nat.le_of_ble_eq_true rfl⟩) (l_preS hN hE hV hS hA) rfl rfl hl.1 rfl (lv_room (by first | exact Nat.le_of_ble_eq_true rfl | simp [rf_cat, ct_ref, ct_int, ct_null, ct_long])) dL_law_368 (room_c hc hs (by omega) (by omega))) hV hS hA (fun r h1 H locs hV hS hp _ => ?_)
  obtain ⟨σ1, v, hW, hrow, hoc⟩ := hp
  refine lv_istore (lv' := [(6, .int r), (0, .ref b), (1, .ref c0), (2, .ref m0), (3, .ref o1), (4, .ref o2), (5, .int (nI i))]) hx hb dL_law_371 hl (by decide) rfl (fun ls hl => ?_)
  refine lv_aload_n hx hb dL_law_373 rfl (lv_at hl 3 rfl) ?_
  refine lv_aload_n hx hb dL_law_374 rfl (lv_at hl 1 rfl) ?_
  refine lv_iload hx hb dL_law_375 (lv_at hl 6 rfl) ?_
  refine lv_iconst (v := 1) hx hb dL_law_377 (by decide) ?_
  refine lv_iadd hx hb dL_law_378 ?_
  refine va_sld hx hb hX hbl hbA hS (i := nI i + 1) i1 dL_law_379 ?_
  obtain ⟨fs, hf⟩ := hW.m0
  refine m_calli (va_runV (As := [.int (xs (nI i + 1).toNatClampNeg)]) (rest := []) ⟨hx, hb, hml, hown, hts⟩ (w_X5_heat (l := l) (H.size) hW (xs (nI i + 1).toNatClampNeg) ) (cwV 1 hts (gL_law_X5_heat.up wsL_law_in) rfl rfl rfl (by decide +kernel) ⟨Nat.le_of_ble_eq_true rfl, Nat.le_of_ble_eq_true rfl⟩) (m_preV (r := (RX5, TX5, 34)) hE hV hS hA hf rfl) rfl rfl hl.1 rfl (lv_room (by exact Nat.le_of_ble_eq_true rfl)) dL_law_380 (room_c hc hs (by omega) (by omega))) hV hS hA (fun b2 h2 H locs hV hS hp _ => ?_)
  obtain ⟨μ1, hW, k1, k2, hom⟩ := hp
  refine lv_istore (lv' := [(7, .int b2), (6, .int r), (0, .ref b), (1, .ref c0), (2, .ref m0), (3, .ref o1), (4, .ref o2), (5, .int (nI i))]) hx hb dL_law_383 hl (by decide) rfl (fun ls hl => ?_)
  refine lv_aload_n hx hb dL_law_385 rfl (lv_at hl 4 rfl) ?_
  obtain ⟨fs, hf⟩ := hW.m0
  refine m_calli (va_runV (As := []) (rest := []) ⟨hx, hb, hml, hown, hts⟩ (w_X5_thrown (l := l) (H.size) hW) (cwV 0 hts (gL_law_X5_thrown.up wsL_law_in) rfl rfl rfl (by decide +kernel) ⟨Nat.le_of_ble_eq_true rfl, Nat.le_of_ble_eq_true rfl⟩) (m_preV (r := (RX5, TX5, 34)) hE hV hS hA hf rfl) rfl rfl hl.1 rfl (lv_room (by exact Nat.le_of_ble_eq_true rfl)) dL_law_386 (room_c hc hs (by omega) (by omega))) hV hS hA (fun r3 h3 H locs hV hS hp _ => ?_)
  obtain ⟨e3, e4⟩ := hp
  rw [e3] at hV
  clear e3
  subst e4
  refine lv_iload hx hb dL_law_389 (lv_at hl 1 rfl) ?_
  obtain ⟨hr1, hth, hval⟩ := R.s_heat _ _ _ _ _ _ _ _ _ hj hw0 hr hoc hom hW.wf
  refine lv_icmp_eq (tgt := 396) hx hb dL_law_391 (by decide) (fun _ => ?_) (fun z => absurd hth z)
  refine lv_iload hx hb dL_law_396 (lv_at hl 1 rfl) ?_
  have kq := kk _ _ _ _ _ _ hV hS hW hr1 (lv_sub hl [2, 3, 4, 5, 6, 7] rfl)
  refine lv_if_ne (tgt := 413) hx hb dL_law_398 (by decide) (fun c9 => ?_) (fun c9 => ?_)
  · exact lv_goto (tgt := 1902) hx hb dL_law_413 (by decide) (W.widen (by omega) (by omega) kq)
  have r0 : r = 0 := c9
  have hv := hval r0
  obtain ⟨f, hrow, hf0⟩ := hrow r0
  refine lv_aload_n hx hb dL_law_401 rfl (lv_at hl 5 rfl) ?_
  refine lv_iconst (v := 0) hx hb dL_law_402 (by decide) ?_
  refine m_lald hx hb hK hV 1 (i := 0) (f := f) (x := v) (by rw [k1]; exact hrow) rfl (show vp_in (nI 0) 1 from vp_in_nI (by decide) (by decide)) (by rw [← hf0]; rfl) dL_law_403 ?_
  refine lv_iload hx hb dL_law_404 (lv_at hl 0 rfl) ?_
  refine lv_i2l (v := (b2).toInt64) hx hb dL_law_406 rfl ?_
  refine m_lcmp_eq (tgt := 413) hx hb dL_law_407 dL_law_408 (by decide) (fun _ => ?_) (fun z => absurd hv z)
  refine lv_goto (tgt := 1902) hx hb dL_law_413 (by decide) ?_
  exact W.widen (by omega) (by omega) kq
set_option maxRecDepth 100000 in
set_option maxHeartbeats 4000000 in
theorem law_pace {p : Program} {l : Launch} {e : Env} {s : State} {m : MethodId} {below : List Frame} {meth : Method} {c : Code} {b L : Nat} {xs : Nat → Int32} {D : va_G} {cs : mC} {df : Nat} {A : Nat → Prop} (C : LC p l s m c b L xs D cs df A) {Rl : Nat → KS → KS → Prop} (R : SimP Rl) {c0 m0 o1 o2 : Nat} {σ μ : KS} {h : mH} {H : Heap} {locs : List Loc} {cells slots : Nat} {Q : State → Prop} (hV : mV D h A H) (hS : va_S A s.heap H locs) (hW : DSt cs df c0 m0 o1 o2 σ μ h) {j : Nat} (hj : j < 512) (hr : Rl j σ μ) {i : Nat} (hi : i + 5 ≤ L) {ls : Array Slot} (hl : lv_has ls 9 (lawL b c0 m0 o1 o2 i)) (hc : cells + 8 ≤ 603072) (hs : slots + 400 ≤ 7223402) (kk : ∀ (σ1 μ1 : KS) (h1 : mH) (H1 : Heap) (locs1 : List Loc) (ls1 : Array Slot), mV D h1 A H1 → va_S A s.heap H1 locs1 → DSt cs df c0 m0 o1 o2 σ1 μ1 h1 → Rl (j + 1) σ1 μ1 → lv_has ls1 9 (lawL b c0 m0 o1 o2 i) → W p l e room_1 s m #[Value.ref b] below meth c H1 locs1 (cells + 8) (slots + 400) Q (F0 m 1902 ls1 [])) : W p l e room_1 s m #[Value.ref b] below meth c H locs cells slots Q (F0 m 416 ls []) := by
  obtain ⟨hx, hb, hml, hown, hts, hX, hbl, hbA, hE, hN, hA, hfl, hL⟩ := C
  have hK := hE.1.1
  have hw0 := hW.wf
  have i1 : vp_in (nI i + 1) L := lw_in (k := 1) (by decide) hi hL
  have i2 : vp_in (nI i + 2) L := lw_in (k := 2) (by decide) hi hL
  have i3 : vp_in (nI i + 3) L := lw_in (k := 3) (by decide) hi hL
  have i4 : vp_in (nI i + 4) L := lw_in (k := 4) (by decide) hi hL
  refine lv_aload_n hx hb dL_law_416 rfl (lv_at hl 1 rfl) ?_
  refine lv_aload_n hx hb dL_law_417 rfl (lv_at hl 0 rfl) ?_
  refine lv_iload hx hb dL_law_418 (lv_at hl 5 rfl) ?_
  refine lv_iconst (v := 1) hx hb dL_law_420 (by decide) ?_
  refine lv_iadd hx hb dL_law_421 ?_
  refine va_sld hx hb hX hbl hbA hS (i := nI i + 1) i1 dL_law_422 ?_
  refine lv_aload_n hx hb dL_law_423 rfl (lv_at hl 3 rfl) ?_
  refine m_calli (vx_runSW (As := [.ref c0, .int (xs (nI i + 1).toNatClampNeg), .ref o1]) (rest := []) ⟨hx, hb, hml, hown, hts⟩ (w_L_pace (l := l) hfl (D := D) (H.size) hW (xs (nI i + 1).toNatClampNeg) ) (vx_cwSW 3 hts (goodIn_l gL_law_L_pace) rfl rfl rfl (by decide +kernel) ⟨Nat.le_of_ble_eq_true rfl, Nat.le_of_ble_eq_true rfl⟩) (l_preS hN hE hV hS hA) rfl rfl hl.1 rfl (lv_room (by first | exact Nat.le_of_ble_eq_true rfl | simp [rf_cat, ct_ref, ct_int, ct_null, ct_long])) dL_law_424 (room_c hc hs (by omega) (by omega))) hV hS hA (fun r h1 H locs hV hS hp _ => ?_)
  obtain ⟨σ1, v, hW, hrow, hoc⟩ := hp
  refine lv_istore (lv' := [(6, .int r), (0, .ref b), (1, .ref c0), (2, .ref m0), (3, .ref o1), (4, .ref o2), (5, .int (nI i))]) hx hb dL_law_427 hl (by decide) rfl (fun ls hl => ?_)
  refine lv_aload_n hx hb dL_law_429 rfl (lv_at hl 3 rfl) ?_
  refine lv_aload_n hx hb dL_law_430 rfl (lv_at hl 1 rfl) ?_
  refine lv_iload hx hb dL_law_431 (lv_at hl 6 rfl) ?_
  refine lv_iconst (v := 1) hx hb dL_law_433 (by decide) ?_
  refine lv_iadd hx hb dL_law_434 ?_
  refine va_sld hx hb hX hbl hbA hS (i := nI i + 1) i1 dL_law_435 ?_
  obtain ⟨fs, hf⟩ := hW.m0
  refine m_calli (va_runV (As := [.int (xs (nI i + 1).toNatClampNeg)]) (rest := []) ⟨hx, hb, hml, hown, hts⟩ (w_X5_pace (l := l) (H.size) hW (xs (nI i + 1).toNatClampNeg) ) (cwV 1 hts (gL_law_X5_pace.up wsL_law_in) rfl rfl rfl (by decide +kernel) ⟨Nat.le_of_ble_eq_true rfl, Nat.le_of_ble_eq_true rfl⟩) (m_preV (r := (RX5, TX5, 34)) hE hV hS hA hf rfl) rfl rfl hl.1 rfl (lv_room (by exact Nat.le_of_ble_eq_true rfl)) dL_law_436 (room_c hc hs (by omega) (by omega))) hV hS hA (fun b2 h2 H locs hV hS hp _ => ?_)
  obtain ⟨μ1, hW, k1, k2, hom⟩ := hp
  refine lv_istore (lv' := [(7, .int b2), (6, .int r), (0, .ref b), (1, .ref c0), (2, .ref m0), (3, .ref o1), (4, .ref o2), (5, .int (nI i))]) hx hb dL_law_439 hl (by decide) rfl (fun ls hl => ?_)
  refine lv_aload_n hx hb dL_law_441 rfl (lv_at hl 4 rfl) ?_
  obtain ⟨fs, hf⟩ := hW.m0
  refine m_calli (va_runV (As := []) (rest := []) ⟨hx, hb, hml, hown, hts⟩ (w_X5_thrown (l := l) (H.size) hW) (cwV 0 hts (gL_law_X5_thrown.up wsL_law_in) rfl rfl rfl (by decide +kernel) ⟨Nat.le_of_ble_eq_true rfl, Nat.le_of_ble_eq_true rfl⟩) (m_preV (r := (RX5, TX5, 34)) hE hV hS hA hf rfl) rfl rfl hl.1 rfl (lv_room (by exact Nat.le_of_ble_eq_true rfl)) dL_law_442 (room_c hc hs (by omega) (by omega))) hV hS hA (fun r3 h3 H locs hV hS hp _ => ?_)
  obtain ⟨e3, e4⟩ := hp
  rw [e3] at hV
  clear e3
  subst e4
  refine lv_iload hx hb dL_law_445 (lv_at hl 1 rfl) ?_
  obtain ⟨hr1, hth, hval⟩ := R.s_pace _ _ _ _ _ _ _ _ _ hj hw0 hr hoc hom hW.wf
  refine lv_icmp_eq (tgt := 452) hx hb dL_law_447 (by decide) (fun _ => ?_) (fun z => absurd hth z)
  refine lv_iload hx hb dL_law_452 (lv_at hl 1 rfl) ?_
  have kq := kk _ _ _ _ _ _ hV hS hW hr1 (lv_sub hl [2, 3, 4, 5, 6, 7] rfl)
  refine lv_if_ne (tgt := 469) hx hb dL_law_454 (by decide) (fun c9 => ?_) (fun c9 => ?_)
  · exact lv_goto (tgt := 1902) hx hb dL_law_469 (by decide) (W.widen (by omega) (by omega) kq)
  have r0 : r = 0 := c9
  have hv := hval r0
  obtain ⟨f, hrow, hf0⟩ := hrow r0
  refine lv_aload_n hx hb dL_law_457 rfl (lv_at hl 5 rfl) ?_
  refine lv_iconst (v := 0) hx hb dL_law_458 (by decide) ?_
  refine m_lald hx hb hK hV 1 (i := 0) (f := f) (x := v) (by rw [k1]; exact hrow) rfl (show vp_in (nI 0) 1 from vp_in_nI (by decide) (by decide)) (by rw [← hf0]; rfl) dL_law_459 ?_
  refine lv_iload hx hb dL_law_460 (lv_at hl 0 rfl) ?_
  refine lv_i2l (v := (b2).toInt64) hx hb dL_law_462 rfl ?_
  refine m_lcmp_eq (tgt := 469) hx hb dL_law_463 dL_law_464 (by decide) (fun _ => ?_) (fun z => absurd hv z)
  refine lv_goto (tgt := 1902) hx hb dL_law_469 (by decide) ?_
  exact W.widen (by omega) (by omega) kq
set_option maxRecDepth 100000 in
set_option maxHeartbeats 4000000 in
theorem law_addGroup {p : Program} {l : Launch} {e : Env} {s : State} {m : MethodId} {below : List Frame} {meth : Method} {c : Code} {b L : Nat} {xs : Nat → Int32} {D : va_G} {cs : mC} {df : Nat} {A : Nat → Prop} (C : LC p l s m c b L xs D cs df A) {Rl : Nat → KS → KS → Prop} (R : SimP Rl) {c0 m0 o1 o2 : Nat} {σ μ : KS} {h : mH} {H : Heap} {locs : List Loc} {cells slots : Nat} {Q : State → Prop} (hV : mV D h A H) (hS : va_S A s.heap H locs) (hW : DSt cs df c0 m0 o1 o2 σ μ h) {j : Nat} (hj : j < 512) (hr : Rl j σ μ) {i : Nat} (hi : i + 5 ≤ L) {ls : Array Slot} (hl : lv_has ls 9 (lawL b c0 m0 o1 o2 i)) (hc : cells + 8 ≤ 603072) (hs : slots + 400 ≤ 7223402) (kk : ∀ (σ1 μ1 : KS) (h1 : mH) (H1 : Heap) (locs1 : List Loc) (ls1 : Array Slot), mV D h1 A H1 → va_S A s.heap H1 locs1 → DSt cs df c0 m0 o1 o2 σ1 μ1 h1 → Rl (j + 1) σ1 μ1 → lv_has ls1 9 (lawL b c0 m0 o1 o2 i) → W p l e room_1 s m #[Value.ref b] below meth c H1 locs1 (cells + 8) (slots + 400) Q (F0 m 1902 ls1 [])) : W p l e room_1 s m #[Value.ref b] below meth c H locs cells slots Q (F0 m 472 ls []) := by
  obtain ⟨hx, hb, hml, hown, hts, hX, hbl, hbA, hE, hN, hA, hfl, hL⟩ := C
  have hK := hE.1.1
  have hw0 := hW.wf
  have i1 : vp_in (nI i + 1) L := lw_in (k := 1) (by decide) hi hL
  have i2 : vp_in (nI i + 2) L := lw_in (k := 2) (by decide) hi hL
  have i3 : vp_in (nI i + 3) L := lw_in (k := 3) (by decide) hi hL
  have i4 : vp_in (nI i + 4) L := lw_in (k := 4) (by decide) hi hL
  refine lv_aload_n hx hb dL_law_472 rfl (lv_at hl 1 rfl) ?_
  refine lv_aload_n hx hb dL_law_473 rfl (lv_at hl 0 rfl) ?_
  refine lv_iload hx hb dL_law_474 (lv_at hl 5 rfl) ?_
  refine lv_iconst (v := 1) hx hb dL_law_476 (by decide) ?_
  refine lv_iadd hx hb dL_law_477 ?_
  refine va_sld hx hb hX hbl hbA hS (i := nI i + 1) i1 dL_law_478 ?_
  refine lv_aload_n hx hb dL_law_479 rfl (lv_at hl 0 rfl) ?_
  refine lv_iload hx hb dL_law_480 (lv_at hl 5 rfl) ?_
  refine lv_iconst (v := 2) hx hb dL_law_482 (by decide) ?_
  refine lv_iadd hx hb dL_law_483 ?_
  refine va_sld hx hb hX hbl hbA hS (i := nI i + 2) i2 dL_law_484 ?_
  refine lv_aload_n hx hb dL_law_485 rfl (lv_at hl 3 rfl) ?_
  refine m_calli (vx_runSW (As := [.ref c0, .int (xs (nI i + 1).toNatClampNeg), .int (xs (nI i + 2).toNatClampNeg), .ref o1]) (rest := []) ⟨hx, hb, hml, hown, hts⟩ (w_L_addGroup (l := l) hfl (D := D) (H.size) hW (xs (nI i + 1).toNatClampNeg) (xs (nI i + 2).toNatClampNeg) ) (vx_cwSW 4 hts (goodIn_l gL_law_L_addGroup) rfl rfl rfl (by decide +kernel) ⟨Nat.le_of_ble_eq_true rfl, Nat.le_of_ble_eq_true rfl⟩) (l_preS hN hE hV hS hA) rfl rfl hl.1 rfl (lv_room (by first | exact Nat.le_of_ble_eq_true rfl | simp [rf_cat, ct_ref, ct_int, ct_null, ct_long])) dL_law_486 (room_c hc hs (by omega) (by omega))) hV hS hA (fun r h1 H locs hV hS hp _ => ?_)
  obtain ⟨σ1, v, hW, hrow, hoc⟩ := hp
  refine lv_istore (lv' := [(6, .int r), (0, .ref b), (1, .ref c0), (2, .ref m0), (3, .ref o1), (4, .ref o2), (5, .int (nI i))]) hx hb dL_law_489 hl (by decide) rfl (fun ls hl => ?_)
  refine lv_aload_n hx hb dL_law_491 rfl (lv_at hl 3 rfl) ?_
  refine lv_aload_n hx hb dL_law_492 rfl (lv_at hl 1 rfl) ?_
  refine lv_iload hx hb dL_law_493 (lv_at hl 6 rfl) ?_
  refine lv_iconst (v := 1) hx hb dL_law_495 (by decide) ?_
  refine lv_iadd hx hb dL_law_496 ?_
  refine va_sld hx hb hX hbl hbA hS (i := nI i + 1) i1 dL_law_497 ?_
  refine lv_aload_n hx hb dL_law_498 rfl (lv_at hl 1 rfl) ?_
  refine lv_iload hx hb dL_law_499 (lv_at hl 6 rfl) ?_
  refine lv_iconst (v := 2) hx hb dL_law_501 (by decide) ?_
  refine lv_iadd hx hb dL_law_502 ?_
  refine va_sld hx hb hX hbl hbA hS (i := nI i + 2) i2 dL_law_503 ?_
  obtain ⟨fs, hf⟩ := hW.m0
  refine m_calli (va_runV (As := [.int (xs (nI i + 1).toNatClampNeg), .int (xs (nI i + 2).toNatClampNeg)]) (rest := []) ⟨hx, hb, hml, hown, hts⟩ (w_X5_addGroup (l := l) (H.size) hW (xs (nI i + 1).toNatClampNeg) (xs (nI i + 2).toNatClampNeg) ) (cwV 2 hts (gL_law_X5_addGroup.up wsL_law_in) rfl rfl rfl (by decide +kernel) ⟨Nat.le_of_ble_eq_true rfl, Nat.le_of_ble_eq_true rfl⟩) (m_preV (r := (RX5, TX5, 34)) hE hV hS hA hf rfl) rfl rfl hl.1 rfl (lv_room (by exact Nat.le_of_ble_eq_true rfl)) dL_law_504 (room_c hc hs (by omega) (by omega))) hV hS hA (fun b2 h2 H locs hV hS hp _ => ?_)
  obtain ⟨μ1, hW, k1, k2, hom⟩ := hp
  refine lv_istore (lv' := [(7, .int b2), (6, .int r), (0, .ref b), (1, .ref c0), (2, .ref m0), (3, .ref o1), (4, .ref o2), (5, .int (nI i))]) hx hb dL_law_507 hl (by decide) rfl (fun ls hl => ?_)
  refine lv_aload_n hx hb dL_law_509 rfl (lv_at hl 4 rfl) ?_
  obtain ⟨fs, hf⟩ := hW.m0
  refine m_calli (va_runV (As := []) (rest := []) ⟨hx, hb, hml, hown, hts⟩ (w_X5_thrown (l := l) (H.size) hW) (cwV 0 hts (gL_law_X5_thrown.up wsL_law_in) rfl rfl rfl (by decide +kernel) ⟨Nat.le_of_ble_eq_true rfl, Nat.le_of_ble_eq_true rfl⟩) (m_preV (r := (RX5, TX5, 34)) hE hV hS hA hf rfl) rfl rfl hl.1 rfl (lv_room (by exact Nat.le_of_ble_eq_true rfl)) dL_law_510 (room_c hc hs (by omega) (by omega))) hV hS hA (fun r3 h3 H locs hV hS hp _ => ?_)
  obtain ⟨e3, e4⟩ := hp
  rw [e3] at hV
  clear e3
  subst e4
  refine lv_iload hx hb dL_law_513 (lv_at hl 1 rfl) ?_
  obtain ⟨hr1, hth, hval⟩ := R.s_addGroup _ _ _ _ _ _ _ _ _ _ hj hw0 hr hoc hom hW.wf
  refine lv_icmp_eq (tgt := 520) hx hb dL_law_515 (by decide) (fun _ => ?_) (fun z => absurd hth z)
  refine lv_iload hx hb dL_law_520 (lv_at hl 1 rfl) ?_
  have kq := kk _ _ _ _ _ _ hV hS hW hr1 (lv_sub hl [2, 3, 4, 5, 6, 7] rfl)
  refine lv_if_ne (tgt := 537) hx hb dL_law_522 (by decide) (fun c9 => ?_) (fun c9 => ?_)
  · exact lv_goto (tgt := 1902) hx hb dL_law_537 (by decide) (W.widen (by omega) (by omega) kq)
  have r0 : r = 0 := c9
  have hv := hval r0
  obtain ⟨f, hrow, hf0⟩ := hrow r0
  refine lv_aload_n hx hb dL_law_525 rfl (lv_at hl 5 rfl) ?_
  refine lv_iconst (v := 0) hx hb dL_law_526 (by decide) ?_
  refine m_lald hx hb hK hV 1 (i := 0) (f := f) (x := v) (by rw [k1]; exact hrow) rfl (show vp_in (nI 0) 1 from vp_in_nI (by decide) (by decide)) (by rw [← hf0]; rfl) dL_law_527 ?_
  refine lv_iload hx hb dL_law_528 (lv_at hl 0 rfl) ?_
  refine lv_i2l (v := (b2).toInt64) hx hb dL_law_530 rfl ?_
  refine m_lcmp_eq (tgt := 537) hx hb dL_law_531 dL_law_532 (by decide) (fun _ => ?_) (fun z => absurd hv z)
  refine lv_goto (tgt := 1902) hx hb dL_law_537 (by decide) ?_
  exact W.widen (by omega) (by omega) kq
set_option maxRecDepth 100000 in
set_option maxHeartbeats 4000000 in
theorem law_addPlain {p : Program} {l : Launch} {e : Env} {s : State} {m : MethodId} {below : List Frame} {meth : Method} {c : Code} {b L : Nat} {xs : Nat → Int32} {D : va_G} {cs : mC} {df : Nat} {A : Nat → Prop} (C : LC p l s m c b L xs D cs df A) {Rl : Nat → KS → KS → Prop} (R : SimP Rl) {c0 m0 o1 o2 : Nat} {σ μ : KS} {h : mH} {H : Heap} {locs : List Loc} {cells slots : Nat} {Q : State → Prop} (hV : mV D h A H) (hS : va_S A s.heap H locs) (hW : DSt cs df c0 m0 o1 o2 σ μ h) {j : Nat} (hj : j < 512) (hr : Rl j σ μ) {i : Nat} (hi : i + 5 ≤ L) {ls : Array Slot} (hl : lv_has ls 9 (lawL b c0 m0 o1 o2 i)) (hc : cells + 8 ≤ 603072) (hs : slots + 400 ≤ 7223402) (kk : ∀ (σ1 μ1 : KS) (h1 : mH) (H1 : Heap) (locs1 : List Loc) (ls1 : Array Slot), mV D h1 A H1 → va_S A s.heap H1 locs1 → DSt cs df c0 m0 o1 o2 σ1 μ1 h1 → Rl (j + 1) σ1 μ1 → lv_has ls1 9 (lawL b c0 m0 o1 o2 i) → W p l e room_1 s m #[Value.ref b] below meth c H1 locs1 (cells + 8) (slots + 400) Q (F0 m 1902 ls1 [])) : W p l e room_1 s m #[Value.ref b] below meth c H locs cells slots Q (F0 m 540 ls []) := by
  obtain ⟨hx, hb, hml, hown, hts, hX, hbl, hbA, hE, hN, hA, hfl, hL⟩ := C
  have hK := hE.1.1
  have hw0 := hW.wf
  have i1 : vp_in (nI i + 1) L := lw_in (k := 1) (by decide) hi hL
  have i2 : vp_in (nI i + 2) L := lw_in (k := 2) (by decide) hi hL
  have i3 : vp_in (nI i + 3) L := lw_in (k := 3) (by decide) hi hL
  have i4 : vp_in (nI i + 4) L := lw_in (k := 4) (by decide) hi hL
  refine lv_aload_n hx hb dL_law_540 rfl (lv_at hl 1 rfl) ?_
  refine lv_aload_n hx hb dL_law_541 rfl (lv_at hl 0 rfl) ?_
  refine lv_iload hx hb dL_law_542 (lv_at hl 5 rfl) ?_
  refine lv_iconst (v := 1) hx hb dL_law_544 (by decide) ?_
  refine lv_iadd hx hb dL_law_545 ?_
  refine va_sld hx hb hX hbl hbA hS (i := nI i + 1) i1 dL_law_546 ?_
  refine lv_aload_n hx hb dL_law_547 rfl (lv_at hl 0 rfl) ?_
  refine lv_iload hx hb dL_law_548 (lv_at hl 5 rfl) ?_
  refine lv_iconst (v := 2) hx hb dL_law_550 (by decide) ?_
  refine lv_iadd hx hb dL_law_551 ?_
  refine va_sld hx hb hX hbl hbA hS (i := nI i + 2) i2 dL_law_552 ?_
  refine lv_aload_n hx hb dL_law_553 rfl (lv_at hl 0 rfl) ?_
  refine lv_iload hx hb dL_law_554 (lv_at hl 5 rfl) ?_
  refine lv_iconst (v := 3) hx hb dL_law_556 (by decide) ?_
  refine lv_iadd hx hb dL_law_557 ?_
  refine va_sld hx hb hX hbl hbA hS (i := nI i + 3) i3 dL_law_558 ?_
  refine lv_aload_n hx hb dL_law_559 rfl (lv_at hl 3 rfl) ?_
  refine m_calli (vx_runSW (As := [.ref c0, .int (xs (nI i + 1).toNatClampNeg), .int (xs (nI i + 2).toNatClampNeg), .int (xs (nI i + 3).toNatClampNeg), .ref o1]) (rest := []) ⟨hx, hb, hml, hown, hts⟩ (w_L_addPlain (l := l) hfl (D := D) (H.size) hW (xs (nI i + 1).toNatClampNeg) (xs (nI i + 2).toNatClampNeg) (xs (nI i + 3).toNatClampNeg) ) (vx_cwSW 5 hts (goodIn_l gL_law_L_addPlain) rfl rfl rfl (by decide +kernel) ⟨Nat.le_of_ble_eq_true rfl, Nat.le_of_ble_eq_true rfl⟩) (l_preS hN hE hV hS hA) rfl rfl hl.1 rfl (lv_room (by first | exact Nat.le_of_ble_eq_true rfl | simp [rf_cat, ct_ref, ct_int, ct_null, ct_long])) dL_law_560 (room_c hc hs (by omega) (by omega))) hV hS hA (fun r h1 H locs hV hS hp _ => ?_)
  obtain ⟨σ1, v, hW, hrow, hoc⟩ := hp
  refine lv_istore (lv' := [(6, .int r), (0, .ref b), (1, .ref c0), (2, .ref m0), (3, .ref o1), (4, .ref o2), (5, .int (nI i))]) hx hb dL_law_563 hl (by decide) rfl (fun ls hl => ?_)
  refine lv_aload_n hx hb dL_law_565 rfl (lv_at hl 3 rfl) ?_
  refine lv_aload_n hx hb dL_law_566 rfl (lv_at hl 1 rfl) ?_
  refine lv_iload hx hb dL_law_567 (lv_at hl 6 rfl) ?_
  refine lv_iconst (v := 1) hx hb dL_law_569 (by decide) ?_
  refine lv_iadd hx hb dL_law_570 ?_
  refine va_sld hx hb hX hbl hbA hS (i := nI i + 1) i1 dL_law_571 ?_
  refine lv_aload_n hx hb dL_law_572 rfl (lv_at hl 1 rfl) ?_
  refine lv_iload hx hb dL_law_573 (lv_at hl 6 rfl) ?_
  refine lv_iconst (v := 2) hx hb dL_law_575 (by decide) ?_
  refine lv_iadd hx hb dL_law_576 ?_
  refine va_sld hx hb hX hbl hbA hS (i := nI i + 2) i2 dL_law_577 ?_
  refine lv_aload_n hx hb dL_law_578 rfl (lv_at hl 1 rfl) ?_
  refine lv_iload hx hb dL_law_579 (lv_at hl 6 rfl) ?_
  refine lv_iconst (v := 3) hx hb dL_law_581 (by decide) ?_
  refine lv_iadd hx hb dL_law_582 ?_
  refine va_sld hx hb hX hbl hbA hS (i := nI i + 3) i3 dL_law_583 ?_
  obtain ⟨fs, hf⟩ := hW.m0
  refine m_calli (va_runV (As := [.int (xs (nI i + 1).toNatClampNeg), .int (xs (nI i + 2).toNatClampNeg), .int (xs (nI i + 3).toNatClampNeg)]) (rest := []) ⟨hx, hb, hml, hown, hts⟩ (w_X5_addPlain (l := l) (H.size) hW (xs (nI i + 1).toNatClampNeg) (xs (nI i + 2).toNatClampNeg) (xs (nI i + 3).toNatClampNeg) ) (cwV 3 hts (gL_law_X5_addPlain.up wsL_law_in) rfl rfl rfl (by decide +kernel) ⟨Nat.le_of_ble_eq_true rfl, Nat.le_of_ble_eq_true rfl⟩) (m_preV (r := (RX5, TX5, 34)) hE hV hS hA hf rfl) rfl rfl hl.1 rfl (lv_room (by exact Nat.le_of_ble_eq_true rfl)) dL_law_584 (room_c hc hs (by omega) (by omega))) hV hS hA (fun b2 h2 H locs hV hS hp _ => ?_)
  obtain ⟨μ1, hW, k1, k2, hom⟩ := hp
  refine lv_istore (lv' := [(7, .int b2), (6, .int r), (0, .ref b), (1, .ref c0), (2, .ref m0), (3, .ref o1), (4, .ref o2), (5, .int (nI i))]) hx hb dL_law_587 hl (by decide) rfl (fun ls hl => ?_)
  refine lv_aload_n hx hb dL_law_589 rfl (lv_at hl 4 rfl) ?_
  obtain ⟨fs, hf⟩ := hW.m0
  refine m_calli (va_runV (As := []) (rest := []) ⟨hx, hb, hml, hown, hts⟩ (w_X5_thrown (l := l) (H.size) hW) (cwV 0 hts (gL_law_X5_thrown.up wsL_law_in) rfl rfl rfl (by decide +kernel) ⟨Nat.le_of_ble_eq_true rfl, Nat.le_of_ble_eq_true rfl⟩) (m_preV (r := (RX5, TX5, 34)) hE hV hS hA hf rfl) rfl rfl hl.1 rfl (lv_room (by exact Nat.le_of_ble_eq_true rfl)) dL_law_590 (room_c hc hs (by omega) (by omega))) hV hS hA (fun r3 h3 H locs hV hS hp _ => ?_)
  obtain ⟨e3, e4⟩ := hp
  rw [e3] at hV
  clear e3
  subst e4
  refine lv_iload hx hb dL_law_593 (lv_at hl 1 rfl) ?_
  obtain ⟨hr1, hth, hval⟩ := R.s_addPlain _ _ _ _ _ _ _ _ _ _ _ hj hw0 hr hoc hom hW.wf
  refine lv_icmp_eq (tgt := 600) hx hb dL_law_595 (by decide) (fun _ => ?_) (fun z => absurd hth z)
  refine lv_iload hx hb dL_law_600 (lv_at hl 1 rfl) ?_
  have kq := kk _ _ _ _ _ _ hV hS hW hr1 (lv_sub hl [2, 3, 4, 5, 6, 7] rfl)
  refine lv_if_ne (tgt := 617) hx hb dL_law_602 (by decide) (fun c9 => ?_) (fun c9 => ?_)
  · exact lv_goto (tgt := 1902) hx hb dL_law_617 (by decide) (W.widen (by omega) (by omega) kq)
  have r0 : r = 0 := c9
  have hv := hval r0
  obtain ⟨f, hrow, hf0⟩ := hrow r0
  refine lv_aload_n hx hb dL_law_605 rfl (lv_at hl 5 rfl) ?_
  refine lv_iconst (v := 0) hx hb dL_law_606 (by decide) ?_
  refine m_lald hx hb hK hV 1 (i := 0) (f := f) (x := v) (by rw [k1]; exact hrow) rfl (show vp_in (nI 0) 1 from vp_in_nI (by decide) (by decide)) (by rw [← hf0]; rfl) dL_law_607 ?_
  refine lv_iload hx hb dL_law_608 (lv_at hl 0 rfl) ?_
  refine lv_i2l (v := (b2).toInt64) hx hb dL_law_610 rfl ?_
  refine m_lcmp_eq (tgt := 617) hx hb dL_law_611 dL_law_612 (by decide) (fun _ => ?_) (fun z => absurd hv z)
  refine lv_goto (tgt := 1902) hx hb dL_law_617 (by decide) ?_
  exact W.widen (by omega) (by omega) kq
set_option maxRecDepth 100000 in
set_option maxHeartbeats 4000000 in
theorem law_addTimed {p : Program} {l : Launch} {e : Env} {s : State} {m : MethodId} {below : List Frame} {meth : Method} {c : Code} {b L : Nat} {xs : Nat → Int32} {D : va_G} {cs : mC} {df : Nat} {A : Nat → Prop} (C : LC p l s m c b L xs D cs df A) {Rl : Nat → KS → KS → Prop} (R : SimP Rl) {c0 m0 o1 o2 : Nat} {σ μ : KS} {h : mH} {H : Heap} {locs : List Loc} {cells slots : Nat} {Q : State → Prop} (hV : mV D h A H) (hS : va_S A s.heap H locs) (hW : DSt cs df c0 m0 o1 o2 σ μ h) {j : Nat} (hj : j < 512) (hr : Rl j σ μ) {i : Nat} (hi : i + 5 ≤ L) {ls : Array Slot} (hl : lv_has ls 9 (lawL b c0 m0 o1 o2 i)) (hc : cells + 8 ≤ 603072) (hs : slots + 400 ≤ 7223402) (kk : ∀ (σ1 μ1 : KS) (h1 : mH) (H1 : Heap) (locs1 : List Loc) (ls1 : Array Slot), mV D h1 A H1 → va_S A s.heap H1 locs1 → DSt cs df c0 m0 o1 o2 σ1 μ1 h1 → Rl (j + 1) σ1 μ1 → lv_has ls1 9 (lawL b c0 m0 o1 o2 i) → W p l e room_1 s m #[Value.ref b] below meth c H1 locs1 (cells + 8) (slots + 400) Q (F0 m 1902 ls1 [])) : W p l e room_1 s m #[Value.ref b] below meth c H locs cells slots Q (F0 m 620 ls []) := by
  obtain ⟨hx, hb, hml, hown, hts, hX, hbl, hbA, hE, hN, hA, hfl, hL⟩ := C
  have hK := hE.1.1
  have hw0 := hW.wf
  have i1 : vp_in (nI i + 1) L := lw_in (k := 1) (by decide) hi hL
  have i2 : vp_in (nI i + 2) L := lw_in (k := 2) (by decide) hi hL
  have i3 : vp_in (nI i + 3) L := lw_in (k := 3) (by decide) hi hL
  have i4 : vp_in (nI i + 4) L := lw_in (k := 4) (by decide) hi hL
  refine lv_aload_n hx hb dL_law_620 rfl (lv_at hl 1 rfl) ?_
  refine lv_aload_n hx hb dL_law_621 rfl (lv_at hl 0 rfl) ?_
  refine lv_iload hx hb dL_law_622 (lv_at hl 5 rfl) ?_
  refine lv_iconst (v := 1) hx hb dL_law_624 (by decide) ?_
  refine lv_iadd hx hb dL_law_625 ?_
  refine va_sld hx hb hX hbl hbA hS (i := nI i + 1) i1 dL_law_626 ?_
  refine lv_aload_n hx hb dL_law_627 rfl (lv_at hl 0 rfl) ?_
  refine lv_iload hx hb dL_law_628 (lv_at hl 5 rfl) ?_
  refine lv_iconst (v := 2) hx hb dL_law_630 (by decide) ?_
  refine lv_iadd hx hb dL_law_631 ?_
  refine va_sld hx hb hX hbl hbA hS (i := nI i + 2) i2 dL_law_632 ?_
  refine lv_aload_n hx hb dL_law_633 rfl (lv_at hl 0 rfl) ?_
  refine lv_iload hx hb dL_law_634 (lv_at hl 5 rfl) ?_
  refine lv_iconst (v := 3) hx hb dL_law_636 (by decide) ?_
  refine lv_iadd hx hb dL_law_637 ?_
  refine va_sld hx hb hX hbl hbA hS (i := nI i + 3) i3 dL_law_638 ?_
  refine lv_aload_n hx hb dL_law_639 rfl (lv_at hl 0 rfl) ?_
  refine lv_iload hx hb dL_law_640 (lv_at hl 5 rfl) ?_
  refine lv_iconst (v := 4) hx hb dL_law_642 (by decide) ?_
  refine lv_iadd hx hb dL_law_643 ?_
  refine va_sld hx hb hX hbl hbA hS (i := nI i + 4) i4 dL_law_644 ?_
  refine lv_aload_n hx hb dL_law_645 rfl (lv_at hl 3 rfl) ?_
  refine m_calli (vx_runSW (As := [.ref c0, .int (xs (nI i + 1).toNatClampNeg), .int (xs (nI i + 2).toNatClampNeg), .int (xs (nI i + 3).toNatClampNeg), .int (xs (nI i + 4).toNatClampNeg), .ref o1]) (rest := []) ⟨hx, hb, hml, hown, hts⟩ (w_L_addTimed (l := l) hfl (D := D) (H.size) hW (xs (nI i + 1).toNatClampNeg) (xs (nI i + 2).toNatClampNeg) (xs (nI i + 3).toNatClampNeg) (xs (nI i + 4).toNatClampNeg) ) (vx_cwSW 6 hts (goodIn_l gL_law_L_addTimed) rfl rfl rfl (by decide +kernel) ⟨Nat.le_of_ble_eq_true rfl, Nat.le_of_ble_eq_true rfl⟩) (l_preS hN hE hV hS hA) rfl rfl hl.1 rfl (lv_room (by first | exact Nat.le_of_ble_eq_true rfl | simp [rf_cat, ct_ref, ct_int, ct_null, ct_long])) dL_law_646 (room_c hc hs (by omega) (by omega))) hV hS hA (fun r h1 H locs hV hS hp _ => ?_)
  obtain ⟨σ1, v, hW, hrow, hoc⟩ := hp
  refine lv_istore (lv' := [(6, .int r), (0, .ref b), (1, .ref c0), (2, .ref m0), (3, .ref o1), (4, .ref o2), (5, .int (nI i))]) hx hb dL_law_649 hl (by decide) rfl (fun ls hl => ?_)
  refine lv_aload_n hx hb dL_law_651 rfl (lv_at hl 3 rfl) ?_
  refine lv_aload_n hx hb dL_law_652 rfl (lv_at hl 1 rfl) ?_
  refine lv_iload hx hb dL_law_653 (lv_at hl 6 rfl) ?_
  refine lv_iconst (v := 1) hx hb dL_law_655 (by decide) ?_
  refine lv_iadd hx hb dL_law_656 ?_
  refine va_sld hx hb hX hbl hbA hS (i := nI i + 1) i1 dL_law_657 ?_
  refine lv_aload_n hx hb dL_law_658 rfl (lv_at hl 1 rfl) ?_
  refine lv_iload hx hb dL_law_659 (lv_at hl 6 rfl) ?_
  refine lv_iconst (v := 2) hx hb dL_law_661 (by decide) ?_
  refine lv_iadd hx hb dL_law_662 ?_
  refine va_sld hx hb hX hbl hbA hS (i := nI i + 2) i2 dL_law_663 ?_
  refine lv_aload_n hx hb dL_law_664 rfl (lv_at hl 1 rfl) ?_
  refine lv_iload hx hb dL_law_665 (lv_at hl 6 rfl) ?_
  refine lv_iconst (v := 3) hx hb dL_law_667 (by decide) ?_
  refine lv_iadd hx hb dL_law_668 ?_
  refine va_sld hx hb hX hbl hbA hS (i := nI i + 3) i3 dL_law_669 ?_
  refine lv_aload_n hx hb dL_law_670 rfl (lv_at hl 1 rfl) ?_
  refine lv_iload hx hb dL_law_671 (lv_at hl 6 rfl) ?_
  refine lv_iconst (v := 4) hx hb dL_law_673 (by decide) ?_
  refine lv_iadd hx hb dL_law_674 ?_
  refine va_sld hx hb hX hbl hbA hS (i := nI i + 4) i4 dL_law_675 ?_
  obtain ⟨fs, hf⟩ := hW.m0
  refine m_calli (va_runV (As := [.int (xs (nI i + 1).toNatClampNeg), .int (xs (nI i + 2).toNatClampNeg), .int (xs (nI i + 3).toNatClampNeg), .int (xs (nI i + 4).toNatClampNeg)]) (rest := []) ⟨hx, hb, hml, hown, hts⟩ (w_X5_addTimed (l := l) (H.size) hW (xs (nI i + 1).toNatClampNeg) (xs (nI i + 2).toNatClampNeg) (xs (nI i + 3).toNatClampNeg) (xs (nI i + 4).toNatClampNeg) ) (cwV 4 hts (gL_law_X5_addTimed.up wsL_law_in) rfl rfl rfl (by decide +kernel) ⟨Nat.le_of_ble_eq_true rfl, Nat.le_of_ble_eq_true rfl⟩) (m_preV (r := (RX5, TX5, 34)) hE hV hS hA hf rfl) rfl rfl hl.1 rfl (lv_room (by exact Nat.le_of_ble_eq_true rfl)) dL_law_676 (room_c hc hs (by omega) (by omega))) hV hS hA (fun b2 h2 H locs hV hS hp _ => ?_)
  obtain ⟨μ1, hW, k1, k2, hom⟩ := hp
  refine lv_istore (lv' := [(7, .int b2), (6, .int r), (0, .ref b), (1, .ref c0), (2, .ref m0), (3, .ref o1), (4, .ref o2), (5, .int (nI i))]) hx hb dL_law_679 hl (by decide) rfl (fun ls hl => ?_)
  refine lv_aload_n hx hb dL_law_681 rfl (lv_at hl 4 rfl) ?_
  obtain ⟨fs, hf⟩ := hW.m0
  refine m_calli (va_runV (As := []) (rest := []) ⟨hx, hb, hml, hown, hts⟩ (w_X5_thrown (l := l) (H.size) hW) (cwV 0 hts (gL_law_X5_thrown.up wsL_law_in) rfl rfl rfl (by decide +kernel) ⟨Nat.le_of_ble_eq_true rfl, Nat.le_of_ble_eq_true rfl⟩) (m_preV (r := (RX5, TX5, 34)) hE hV hS hA hf rfl) rfl rfl hl.1 rfl (lv_room (by exact Nat.le_of_ble_eq_true rfl)) dL_law_682 (room_c hc hs (by omega) (by omega))) hV hS hA (fun r3 h3 H locs hV hS hp _ => ?_)
  obtain ⟨e3, e4⟩ := hp
  rw [e3] at hV
  clear e3
  subst e4
  refine lv_iload hx hb dL_law_685 (lv_at hl 1 rfl) ?_
  obtain ⟨hr1, hth, hval⟩ := R.s_addTimed _ _ _ _ _ _ _ _ _ _ _ _ hj hw0 hr hoc hom hW.wf
  refine lv_icmp_eq (tgt := 692) hx hb dL_law_687 (by decide) (fun _ => ?_) (fun z => absurd hth z)
  refine lv_iload hx hb dL_law_692 (lv_at hl 1 rfl) ?_
  have kq := kk _ _ _ _ _ _ hV hS hW hr1 (lv_sub hl [2, 3, 4, 5, 6, 7] rfl)
  refine lv_if_ne (tgt := 709) hx hb dL_law_694 (by decide) (fun c9 => ?_) (fun c9 => ?_)
  · exact lv_goto (tgt := 1902) hx hb dL_law_709 (by decide) (W.widen (by omega) (by omega) kq)
  have r0 : r = 0 := c9
  have hv := hval r0
  obtain ⟨f, hrow, hf0⟩ := hrow r0
  refine lv_aload_n hx hb dL_law_697 rfl (lv_at hl 5 rfl) ?_
  refine lv_iconst (v := 0) hx hb dL_law_698 (by decide) ?_
  refine m_lald hx hb hK hV 1 (i := 0) (f := f) (x := v) (by rw [k1]; exact hrow) rfl (show vp_in (nI 0) 1 from vp_in_nI (by decide) (by decide)) (by rw [← hf0]; rfl) dL_law_699 ?_
  refine lv_iload hx hb dL_law_700 (lv_at hl 0 rfl) ?_
  refine lv_i2l (v := (b2).toInt64) hx hb dL_law_702 rfl ?_
  refine m_lcmp_eq (tgt := 709) hx hb dL_law_703 dL_law_704 (by decide) (fun _ => ?_) (fun z => absurd hv z)
  refine lv_goto (tgt := 1902) hx hb dL_law_709 (by decide) ?_
  exact W.widen (by omega) (by omega) kq
set_option maxRecDepth 100000 in
set_option maxHeartbeats 4000000 in
theorem law_end {p : Program} {l : Launch} {e : Env} {s : State} {m : MethodId} {below : List Frame} {meth : Method} {c : Code} {b L : Nat} {xs : Nat → Int32} {D : va_G} {cs : mC} {df : Nat} {A : Nat → Prop} (C : LC p l s m c b L xs D cs df A) {Rl : Nat → KS → KS → Prop} (R : SimP Rl) {c0 m0 o1 o2 : Nat} {σ μ : KS} {h : mH} {H : Heap} {locs : List Loc} {cells slots : Nat} {Q : State → Prop} (hV : mV D h A H) (hS : va_S A s.heap H locs) (hW : DSt cs df c0 m0 o1 o2 σ μ h) {j : Nat} (hj : j < 512) (hr : Rl j σ μ) {i : Nat} (hi : i + 5 ≤ L) {ls : Array Slot} (hl : lv_has ls 9 (lawL b c0 m0 o1 o2 i)) (hc : cells + 8 ≤ 603072) (hs : slots + 400 ≤ 7223402) (kk : ∀ (σ1 μ1 : KS) (h1 : mH) (H1 : Heap) (locs1 : List Loc) (ls1 : Array Slot), mV D h1 A H1 → va_S A s.heap H1 locs1 → DSt cs df c0 m0 o1 o2 σ1 μ1 h1 → Rl (j + 1) σ1 μ1 → lv_has ls1 9 (lawL b c0 m0 o1 o2 i) → W p l e room_1 s m #[Value.ref b] below meth c H1 locs1 (cells + 8) (slots + 400) Q (F0 m 1902 ls1 [])) : W p l e room_1 s m #[Value.ref b] below meth c H locs cells slots Q (F0 m 712 ls []) := by
  obtain ⟨hx, hb, hml, hown, hts, hX, hbl, hbA, hE, hN, hA, hfl, hL⟩ := C
  have hK := hE.1.1
  have hw0 := hW.wf
  have i1 : vp_in (nI i + 1) L := lw_in (k := 1) (by decide) hi hL
  have i2 : vp_in (nI i + 2) L := lw_in (k := 2) (by decide) hi hL
  have i3 : vp_in (nI i + 3) L := lw_in (k := 3) (by decide) hi hL
  have i4 : vp_in (nI i + 4) L := lw_in (k := 4) (by decide) hi hL
  refine lv_aload_n hx hb dL_law_712 rfl (lv_at hl 1 rfl) ?_
  refine lv_aload_n hx hb dL_law_713 rfl (lv_at hl 0 rfl) ?_
  refine lv_iload hx hb dL_law_714 (lv_at hl 5 rfl) ?_
  refine lv_iconst (v := 1) hx hb dL_law_716 (by decide) ?_
  refine lv_iadd hx hb dL_law_717 ?_
  refine va_sld hx hb hX hbl hbA hS (i := nI i + 1) i1 dL_law_718 ?_
  refine lv_aload_n hx hb dL_law_719 rfl (lv_at hl 3 rfl) ?_
  refine m_calli (vx_runSW (As := [.ref c0, .int (xs (nI i + 1).toNatClampNeg), .ref o1]) (rest := []) ⟨hx, hb, hml, hown, hts⟩ (w_L_end (l := l) hfl (D := D) (H.size) hW (xs (nI i + 1).toNatClampNeg) ) (vx_cwSW 3 hts (goodIn_l gL_law_L_end) rfl rfl rfl (by decide +kernel) ⟨Nat.le_of_ble_eq_true rfl, Nat.le_of_ble_eq_true rfl⟩) (l_preS hN hE hV hS hA) rfl rfl hl.1 rfl (lv_room (by first | exact Nat.le_of_ble_eq_true rfl | simp [rf_cat, ct_ref, ct_int, ct_null, ct_long])) dL_law_720 (room_c hc hs (by omega) (by omega))) hV hS hA (fun r h1 H locs hV hS hp _ => ?_)
  obtain ⟨σ1, v, hW, hrow, hoc⟩ := hp
  refine lv_istore (lv' := [(6, .int r), (0, .ref b), (1, .ref c0), (2, .ref m0), (3, .ref o1), (4, .ref o2), (5, .int (nI i))]) hx hb dL_law_723 hl (by decide) rfl (fun ls hl => ?_)
  refine lv_aload_n hx hb dL_law_725 rfl (lv_at hl 3 rfl) ?_
  refine lv_aload_n hx hb dL_law_726 rfl (lv_at hl 1 rfl) ?_
  refine lv_iload hx hb dL_law_727 (lv_at hl 6 rfl) ?_
  refine lv_iconst (v := 1) hx hb dL_law_729 (by decide) ?_
  refine lv_iadd hx hb dL_law_730 ?_
  refine va_sld hx hb hX hbl hbA hS (i := nI i + 1) i1 dL_law_731 ?_
  obtain ⟨fs, hf⟩ := hW.m0
  refine m_calli (va_runV (As := [.int (xs (nI i + 1).toNatClampNeg)]) (rest := []) ⟨hx, hb, hml, hown, hts⟩ (w_X5_end (l := l) (H.size) hW (xs (nI i + 1).toNatClampNeg) ) (cwV 1 hts (gL_law_X5_end.up wsL_law_in) rfl rfl rfl (by decide +kernel) ⟨Nat.le_of_ble_eq_true rfl, Nat.le_of_ble_eq_true rfl⟩) (m_preV (r := (RX5, TX5, 34)) hE hV hS hA hf rfl) rfl rfl hl.1 rfl (lv_room (by exact Nat.le_of_ble_eq_true rfl)) dL_law_732 (room_c hc hs (by omega) (by omega))) hV hS hA (fun b2 h2 H locs hV hS hp _ => ?_)
  obtain ⟨μ1, hW, k1, k2, hom⟩ := hp
  refine lv_istore (lv' := [(7, .int b2), (6, .int r), (0, .ref b), (1, .ref c0), (2, .ref m0), (3, .ref o1), (4, .ref o2), (5, .int (nI i))]) hx hb dL_law_735 hl (by decide) rfl (fun ls hl => ?_)
  refine lv_aload_n hx hb dL_law_737 rfl (lv_at hl 4 rfl) ?_
  obtain ⟨fs, hf⟩ := hW.m0
  refine m_calli (va_runV (As := []) (rest := []) ⟨hx, hb, hml, hown, hts⟩ (w_X5_thrown (l := l) (H.size) hW) (cwV 0 hts (gL_law_X5_thrown.up wsL_law_in) rfl rfl rfl (by decide +kernel) ⟨Nat.le_of_ble_eq_true rfl, Nat.le_of_ble_eq_true rfl⟩) (m_preV (r := (RX5, TX5, 34)) hE hV hS hA hf rfl) rfl rfl hl.1 rfl (lv_room (by exact Nat.le_of_ble_eq_true rfl)) dL_law_738 (room_c hc hs (by omega) (by omega))) hV hS hA (fun r3 h3 H locs hV hS hp _ => ?_)
  obtain ⟨e3, e4⟩ := hp
  rw [e3] at hV
  clear e3
  subst e4
  refine lv_iload hx hb dL_law_741 (lv_at hl 1 rfl) ?_
  obtain ⟨hr1, hth, hval⟩ := R.s_end _ _ _ _ _ _ _ _ _ hj hw0 hr hoc hom hW.wf
  refine lv_icmp_eq (tgt := 748) hx hb dL_law_743 (by decide) (fun _ => ?_) (fun z => absurd hth z)
  refine lv_iload hx hb dL_law_748 (lv_at hl 1 rfl) ?_
  have kq := kk _ _ _ _ _ _ hV hS hW hr1 (lv_sub hl [2, 3, 4, 5, 6, 7] rfl)
  refine lv_if_ne (tgt := 765) hx hb dL_law_750 (by decide) (fun c9 => ?_) (fun c9 => ?_)
  · exact lv_goto (tgt := 1902) hx hb dL_law_765 (by decide) (W.widen (by omega) (by omega) kq)
  have r0 : r = 0 := c9
  have hv := hval r0
  obtain ⟨f, hrow, hf0⟩ := hrow r0
  refine lv_aload_n hx hb dL_law_753 rfl (lv_at hl 5 rfl) ?_
  refine lv_iconst (v := 0) hx hb dL_law_754 (by decide) ?_
  refine m_lald hx hb hK hV 1 (i := 0) (f := f) (x := v) (by rw [k1]; exact hrow) rfl (show vp_in (nI 0) 1 from vp_in_nI (by decide) (by decide)) (by rw [← hf0]; rfl) dL_law_755 ?_
  refine lv_iload hx hb dL_law_756 (lv_at hl 0 rfl) ?_
  refine lv_i2l (v := (b2).toInt64) hx hb dL_law_758 rfl ?_
  refine m_lcmp_eq (tgt := 765) hx hb dL_law_759 dL_law_760 (by decide) (fun _ => ?_) (fun z => absurd hv z)
  refine lv_goto (tgt := 1902) hx hb dL_law_765 (by decide) ?_
  exact W.widen (by omega) (by omega) kq
set_option maxRecDepth 100000 in
set_option maxHeartbeats 4000000 in
theorem law_left {p : Program} {l : Launch} {e : Env} {s : State} {m : MethodId} {below : List Frame} {meth : Method} {c : Code} {b L : Nat} {xs : Nat → Int32} {D : va_G} {cs : mC} {df : Nat} {A : Nat → Prop} (C : LC p l s m c b L xs D cs df A) {Rl : Nat → KS → KS → Prop} (R : SimP Rl) {c0 m0 o1 o2 : Nat} {σ μ : KS} {h : mH} {H : Heap} {locs : List Loc} {cells slots : Nat} {Q : State → Prop} (hV : mV D h A H) (hS : va_S A s.heap H locs) (hW : DSt cs df c0 m0 o1 o2 σ μ h) {j : Nat} (hj : j < 512) (hr : Rl j σ μ) {i : Nat} (hi : i + 5 ≤ L) {ls : Array Slot} (hl : lv_has ls 9 (lawL b c0 m0 o1 o2 i)) (hc : cells + 8 ≤ 603072) (hs : slots + 400 ≤ 7223402) (kk : ∀ (σ1 μ1 : KS) (h1 : mH) (H1 : Heap) (locs1 : List Loc) (ls1 : Array Slot), mV D h1 A H1 → va_S A s.heap H1 locs1 → DSt cs df c0 m0 o1 o2 σ1 μ1 h1 → Rl (j + 1) σ1 μ1 → lv_has ls1 9 (lawL b c0 m0 o1 o2 i) → W p l e room_1 s m #[Value.ref b] below meth c H1 locs1 (cells + 8) (slots + 400) Q (F0 m 1902 ls1 [])) : W p l e room_1 s m #[Value.ref b] below meth c H locs cells slots Q (F0 m 768 ls []) := by
  obtain ⟨hx, hb, hml, hown, hts, hX, hbl, hbA, hE, hN, hA, hfl, hL⟩ := C
  have hK := hE.1.1
  have hw0 := hW.wf
  have i1 : vp_in (nI i + 1) L := lw_in (k := 1) (by decide) hi hL
  have i2 : vp_in (nI i + 2) L := lw_in (k := 2) (by decide) hi hL
  have i3 : vp_in (nI i + 3) L := lw_in (k := 3) (by decide) hi hL
  have i4 : vp_in (nI i + 4) L := lw_in (k := 4) (by decide) hi hL
  refine lv_aload_n hx hb dL_law_768 rfl (lv_at hl 1 rfl) ?_
  refine lv_aload_n hx hb dL_law_769 rfl (lv_at hl 0 rfl) ?_
  refine lv_iload hx hb dL_law_770 (lv_at hl 5 rfl) ?_
  refine lv_iconst (v := 1) hx hb dL_law_772 (by decide) ?_
  refine lv_iadd hx hb dL_law_773 ?_
  refine va_sld hx hb hX hbl hbA hS (i := nI i + 1) i1 dL_law_774 ?_
  refine lv_aload_n hx hb dL_law_775 rfl (lv_at hl 3 rfl) ?_
  refine m_calli (vx_runSW (As := [.ref c0, .int (xs (nI i + 1).toNatClampNeg), .ref o1]) (rest := []) ⟨hx, hb, hml, hown, hts⟩ (w_L_left (l := l) hfl (D := D) (H.size) hW (xs (nI i + 1).toNatClampNeg) ) (vx_cwSW 3 hts (goodIn_l gL_law_L_left) rfl rfl rfl (by decide +kernel) ⟨Nat.le_of_ble_eq_true rfl, Nat.le_of_ble_eq_true rfl⟩) (l_preS hN hE hV hS hA) rfl rfl hl.1 rfl (lv_room (by first | exact Nat.le_of_ble_eq_true rfl | simp [rf_cat, ct_ref, ct_int, ct_null, ct_long])) dL_law_776 (room_c hc hs (by omega) (by omega))) hV hS hA (fun r h1 H locs hV hS hp _ => ?_)
  obtain ⟨σ1, v, hW, hrow, hoc⟩ := hp
  refine lv_istore (lv' := [(6, .int r), (0, .ref b), (1, .ref c0), (2, .ref m0), (3, .ref o1), (4, .ref o2), (5, .int (nI i))]) hx hb dL_law_779 hl (by decide) rfl (fun ls hl => ?_)
  refine lv_aload_n hx hb dL_law_781 rfl (lv_at hl 3 rfl) ?_
  refine lv_aload_n hx hb dL_law_782 rfl (lv_at hl 1 rfl) ?_
  refine lv_iload hx hb dL_law_783 (lv_at hl 6 rfl) ?_
  refine lv_iconst (v := 1) hx hb dL_law_785 (by decide) ?_
  refine lv_iadd hx hb dL_law_786 ?_
  refine va_sld hx hb hX hbl hbA hS (i := nI i + 1) i1 dL_law_787 ?_
  obtain ⟨fs, hf⟩ := hW.m0
  refine m_calli (va_runV (As := [.int (xs (nI i + 1).toNatClampNeg)]) (rest := []) ⟨hx, hb, hml, hown, hts⟩ (w_X5_left (l := l) (H.size) hW (xs (nI i + 1).toNatClampNeg) ) (cwV 1 hts (gL_law_X5_left.up wsL_law_in) rfl rfl rfl (by decide +kernel) ⟨Nat.le_of_ble_eq_true rfl, Nat.le_of_ble_eq_true rfl⟩) (m_preV (r := (RX5, TX5, 34)) hE hV hS hA hf rfl) rfl rfl hl.1 rfl (lv_room (by exact Nat.le_of_ble_eq_true rfl)) dL_law_788 (room_c hc hs (by omega) (by omega))) hV hS hA (fun b2 h2 H locs hV hS hp _ => ?_)
  obtain ⟨μ1, hW, k1, k2, hom⟩ := hp
  refine lv_istore (lv' := [(7, .int b2), (6, .int r), (0, .ref b), (1, .ref c0), (2, .ref m0), (3, .ref o1), (4, .ref o2), (5, .int (nI i))]) hx hb dL_law_791 hl (by decide) rfl (fun ls hl => ?_)
  refine lv_aload_n hx hb dL_law_793 rfl (lv_at hl 4 rfl) ?_
  obtain ⟨fs, hf⟩ := hW.m0
  refine m_calli (va_runV (As := []) (rest := []) ⟨hx, hb, hml, hown, hts⟩ (w_X5_thrown (l := l) (H.size) hW) (cwV 0 hts (gL_law_X5_thrown.up wsL_law_in) rfl rfl rfl (by decide +kernel) ⟨Nat.le_of_ble_eq_true rfl, Nat.le_of_ble_eq_true rfl⟩) (m_preV (r := (RX5, TX5, 34)) hE hV hS hA hf rfl) rfl rfl hl.1 rfl (lv_room (by exact Nat.le_of_ble_eq_true rfl)) dL_law_794 (room_c hc hs (by omega) (by omega))) hV hS hA (fun r3 h3 H locs hV hS hp _ => ?_)
  obtain ⟨e3, e4⟩ := hp
  rw [e3] at hV
  clear e3
  subst e4
  refine lv_iload hx hb dL_law_797 (lv_at hl 1 rfl) ?_
  obtain ⟨hr1, hth, hval⟩ := R.s_left _ _ _ _ _ _ _ _ _ hj hw0 hr hoc hom hW.wf
  refine lv_icmp_eq (tgt := 804) hx hb dL_law_799 (by decide) (fun _ => ?_) (fun z => absurd hth z)
  refine lv_iload hx hb dL_law_804 (lv_at hl 1 rfl) ?_
  have kq := kk _ _ _ _ _ _ hV hS hW hr1 (lv_sub hl [2, 3, 4, 5, 6, 7] rfl)
  refine lv_if_ne (tgt := 821) hx hb dL_law_806 (by decide) (fun c9 => ?_) (fun c9 => ?_)
  · exact lv_goto (tgt := 1902) hx hb dL_law_821 (by decide) (W.widen (by omega) (by omega) kq)
  have r0 : r = 0 := c9
  have hv := hval r0
  obtain ⟨f, hrow, hf0⟩ := hrow r0
  refine lv_aload_n hx hb dL_law_809 rfl (lv_at hl 5 rfl) ?_
  refine lv_iconst (v := 0) hx hb dL_law_810 (by decide) ?_
  refine m_lald hx hb hK hV 1 (i := 0) (f := f) (x := v) (by rw [k1]; exact hrow) rfl (show vp_in (nI 0) 1 from vp_in_nI (by decide) (by decide)) (by rw [← hf0]; rfl) dL_law_811 ?_
  refine lv_iload hx hb dL_law_812 (lv_at hl 0 rfl) ?_
  refine lv_i2l (v := (b2).toInt64) hx hb dL_law_814 rfl ?_
  refine m_lcmp_eq (tgt := 821) hx hb dL_law_815 dL_law_816 (by decide) (fun _ => ?_) (fun z => absurd hv z)
  refine lv_goto (tgt := 1902) hx hb dL_law_821 (by decide) ?_
  exact W.widen (by omega) (by omega) kq
set_option maxRecDepth 100000 in
set_option maxHeartbeats 4000000 in
theorem law_stateOf {p : Program} {l : Launch} {e : Env} {s : State} {m : MethodId} {below : List Frame} {meth : Method} {c : Code} {b L : Nat} {xs : Nat → Int32} {D : va_G} {cs : mC} {df : Nat} {A : Nat → Prop} (C : LC p l s m c b L xs D cs df A) {Rl : Nat → KS → KS → Prop} (R : SimP Rl) {c0 m0 o1 o2 : Nat} {σ μ : KS} {h : mH} {H : Heap} {locs : List Loc} {cells slots : Nat} {Q : State → Prop} (hV : mV D h A H) (hS : va_S A s.heap H locs) (hW : DSt cs df c0 m0 o1 o2 σ μ h) {j : Nat} (hj : j < 512) (hr : Rl j σ μ) {i : Nat} (hi : i + 5 ≤ L) {ls : Array Slot} (hl : lv_has ls 9 (lawL b c0 m0 o1 o2 i)) (hc : cells + 8 ≤ 603072) (hs : slots + 400 ≤ 7223402) (kk : ∀ (σ1 μ1 : KS) (h1 : mH) (H1 : Heap) (locs1 : List Loc) (ls1 : Array Slot), mV D h1 A H1 → va_S A s.heap H1 locs1 → DSt cs df c0 m0 o1 o2 σ1 μ1 h1 → Rl (j + 1) σ1 μ1 → lv_has ls1 9 (lawL b c0 m0 o1 o2 i) → W p l e room_1 s m #[Value.ref b] below meth c H1 locs1 (cells + 8) (slots + 400) Q (F0 m 1902 ls1 [])) : W p l e room_1 s m #[Value.ref b] below meth c H locs cells slots Q (F0 m 824 ls []) := by
  obtain ⟨hx, hb, hml, hown, hts, hX, hbl, hbA, hE, hN, hA, hfl, hL⟩ := C
  have hK := hE.1.1
  have hw0 := hW.wf
  have i1 : vp_in (nI i + 1) L := lw_in (k := 1) (by decide) hi hL
  have i2 : vp_in (nI i + 2) L := lw_in (k := 2) (by decide) hi hL
  have i3 : vp_in (nI i + 3) L := lw_in (k := 3) (by decide) hi hL
  have i4 : vp_in (nI i + 4) L := lw_in (k := 4) (by decide) hi hL
  refine lv_aload_n hx hb dL_law_824 rfl (lv_at hl 1 rfl) ?_
  refine lv_aload_n hx hb dL_law_825 rfl (lv_at hl 0 rfl) ?_
  refine lv_iload hx hb dL_law_826 (lv_at hl 5 rfl) ?_
  refine lv_iconst (v := 1) hx hb dL_law_828 (by decide) ?_
  refine lv_iadd hx hb dL_law_829 ?_
  refine va_sld hx hb hX hbl hbA hS (i := nI i + 1) i1 dL_law_830 ?_
  refine lv_aload_n hx hb dL_law_831 rfl (lv_at hl 3 rfl) ?_
  refine m_calli (vx_runSW (As := [.ref c0, .int (xs (nI i + 1).toNatClampNeg), .ref o1]) (rest := []) ⟨hx, hb, hml, hown, hts⟩ (w_L_stateOf (l := l) hfl (D := D) (H.size) hW (xs (nI i + 1).toNatClampNeg) ) (vx_cwSW 3 hts (goodIn_l gL_law_L_stateOf) rfl rfl rfl (by decide +kernel) ⟨Nat.le_of_ble_eq_true rfl, Nat.le_of_ble_eq_true rfl⟩) (l_preS hN hE hV hS hA) rfl rfl hl.1 rfl (lv_room (by first | exact Nat.le_of_ble_eq_true rfl | simp [rf_cat, ct_ref, ct_int, ct_null, ct_long])) dL_law_832 (room_c hc hs (by omega) (by omega))) hV hS hA (fun r h1 H locs hV hS hp _ => ?_)
  obtain ⟨σ1, v, hW, hrow, hoc⟩ := hp
  refine lv_istore (lv' := [(6, .int r), (0, .ref b), (1, .ref c0), (2, .ref m0), (3, .ref o1), (4, .ref o2), (5, .int (nI i))]) hx hb dL_law_835 hl (by decide) rfl (fun ls hl => ?_)
  refine lv_aload_n hx hb dL_law_837 rfl (lv_at hl 3 rfl) ?_
  refine lv_aload_n hx hb dL_law_838 rfl (lv_at hl 1 rfl) ?_
  refine lv_iload hx hb dL_law_839 (lv_at hl 6 rfl) ?_
  refine lv_iconst (v := 1) hx hb dL_law_841 (by decide) ?_
  refine lv_iadd hx hb dL_law_842 ?_
  refine va_sld hx hb hX hbl hbA hS (i := nI i + 1) i1 dL_law_843 ?_
  obtain ⟨fs, hf⟩ := hW.m0
  refine m_calli (va_runV (As := [.int (xs (nI i + 1).toNatClampNeg)]) (rest := []) ⟨hx, hb, hml, hown, hts⟩ (w_X5_stateOf (l := l) (H.size) hW (xs (nI i + 1).toNatClampNeg) ) (cwV 1 hts (gL_law_X5_stateOf.up wsL_law_in) rfl rfl rfl (by decide +kernel) ⟨Nat.le_of_ble_eq_true rfl, Nat.le_of_ble_eq_true rfl⟩) (m_preV (r := (RX5, TX5, 34)) hE hV hS hA hf rfl) rfl rfl hl.1 rfl (lv_room (by exact Nat.le_of_ble_eq_true rfl)) dL_law_844 (room_c hc hs (by omega) (by omega))) hV hS hA (fun b2 h2 H locs hV hS hp _ => ?_)
  obtain ⟨μ1, hW, k1, k2, hom⟩ := hp
  refine lv_istore (lv' := [(7, .int b2), (6, .int r), (0, .ref b), (1, .ref c0), (2, .ref m0), (3, .ref o1), (4, .ref o2), (5, .int (nI i))]) hx hb dL_law_847 hl (by decide) rfl (fun ls hl => ?_)
  refine lv_aload_n hx hb dL_law_849 rfl (lv_at hl 4 rfl) ?_
  obtain ⟨fs, hf⟩ := hW.m0
  refine m_calli (va_runV (As := []) (rest := []) ⟨hx, hb, hml, hown, hts⟩ (w_X5_thrown (l := l) (H.size) hW) (cwV 0 hts (gL_law_X5_thrown.up wsL_law_in) rfl rfl rfl (by decide +kernel) ⟨Nat.le_of_ble_eq_true rfl, Nat.le_of_ble_eq_true rfl⟩) (m_preV (r := (RX5, TX5, 34)) hE hV hS hA hf rfl) rfl rfl hl.1 rfl (lv_room (by exact Nat.le_of_ble_eq_true rfl)) dL_law_850 (room_c hc hs (by omega) (by omega))) hV hS hA (fun r3 h3 H locs hV hS hp _ => ?_)
  obtain ⟨e3, e4⟩ := hp
  rw [e3] at hV
  clear e3
  subst e4
  refine lv_iload hx hb dL_law_853 (lv_at hl 1 rfl) ?_
  obtain ⟨hr1, hth, hval⟩ := R.s_stateOf _ _ _ _ _ _ _ _ _ hj hw0 hr hoc hom hW.wf
  refine lv_icmp_eq (tgt := 860) hx hb dL_law_855 (by decide) (fun _ => ?_) (fun z => absurd hth z)
  refine lv_iload hx hb dL_law_860 (lv_at hl 1 rfl) ?_
  have kq := kk _ _ _ _ _ _ hV hS hW hr1 (lv_sub hl [2, 3, 4, 5, 6, 7] rfl)
  refine lv_if_ne (tgt := 877) hx hb dL_law_862 (by decide) (fun c9 => ?_) (fun c9 => ?_)
  · exact lv_goto (tgt := 1902) hx hb dL_law_877 (by decide) (W.widen (by omega) (by omega) kq)
  have r0 : r = 0 := c9
  have hv := hval r0
  obtain ⟨f, hrow, hf0⟩ := hrow r0
  refine lv_aload_n hx hb dL_law_865 rfl (lv_at hl 5 rfl) ?_
  refine lv_iconst (v := 0) hx hb dL_law_866 (by decide) ?_
  refine m_lald hx hb hK hV 1 (i := 0) (f := f) (x := v) (by rw [k1]; exact hrow) rfl (show vp_in (nI 0) 1 from vp_in_nI (by decide) (by decide)) (by rw [← hf0]; rfl) dL_law_867 ?_
  refine lv_iload hx hb dL_law_868 (lv_at hl 0 rfl) ?_
  refine lv_i2l (v := (b2).toInt64) hx hb dL_law_870 rfl ?_
  refine m_lcmp_eq (tgt := 877) hx hb dL_law_871 dL_law_872 (by decide) (fun _ => ?_) (fun z => absurd hv z)
  refine lv_goto (tgt := 1902) hx hb dL_law_877 (by decide) ?_
  exact W.widen (by omega) (by omega) kq
