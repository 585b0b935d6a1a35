set_option maxRecDepth 100000 in
set_option maxHeartbeats 4000000 in
theorem law_release {p : Program} {l : Launch} {e : Env} {s : State} {m : MethodId} {below : List Frame} {meth : Method} {c : Code} {b L : Nat} {xs : Nat → Int32} {D : va_G} {cs : mC} {df : Nat} {A : Nat → Prop} (C : LC p l s m c b L xs D cs df A) {Rl : Nat → KS → KS → Prop} (R : SimP Rl) {c0 m0 o1 o2 : Nat} {σ μ : KS} {h : mH} {H : Heap} {locs : List Loc} {cells slots : Nat} {Q : State → Prop} (hV : mV D h A H) (hS : va_S A s.heap H locs) (hW : DSt cs df c0 m0 o1 o2 σ μ h) {j : Nat} (hj : j < 512) (hr : Rl j σ μ) {i : Nat} (hi : i + 5 ≤ L) {ls : Array Slot} (hl : lv_has ls 9 (lawL b c0 m0 o1 o2 i)) (hc : cells + 8 ≤ 603072) (hs : slots + 400 ≤ 7223402) (kk : ∀ (σ1 μ1 : KS) (h1 : mH) (H1 : Heap) (locs1 : List Loc) (ls1 : Array Slot), mV D h1 A H1 → va_S A s.heap H1 locs1 → DSt cs df c0 m0 o1 o2 σ1 μ1 h1 → Rl (j + 1) σ1 μ1 → lv_has ls1 9 (lawL b c0 m0 o1 o2 i) → W p l e room_1 s m #[Value.ref b] below meth c H1 locs1 (cells + 8) (slots + 400) Q (F0 m 1902 ls1 [])) : W p l e room_1 s m #[Value.ref b] below meth c H locs cells slots Q (F0 m 1384 ls []) := by
  obtain ⟨hx, hb, hml, hown, hts, hX, hbl, hbA, hE, hN, hA, hfl, hL⟩ := C
  have hK := hE.1.1
  have hw0 := hW.wf
  have i1 : vp_in (nI i + 1) L := lw_in (k := 1) (by decide) hi hL
  have i2 : vp_in (nI i + 2) L := lw_in (k := 2) (by decide) hi hL
  have i3 : vp_in (nI i + 3) L := lw_in (k := 3) (by decide) hi hL
  have i4 : vp_in (nI i + 4) L := lw_in (k := 4) (by decide) hi hL
  refine lv_aload_n hx hb dL_law_1384 rfl (lv_at hl 1 rfl) ?_
  refine lv_aload_n hx hb dL_law_1385 rfl (lv_at hl 0 rfl) ?_
  refine lv_iload hx hb dL_law_1386 (lv_at hl 5 rfl) ?_
  refine lv_iconst (v := 1) hx hb dL_law_1388 (by decide) ?_
  refine lv_iadd hx hb dL_law_1389 ?_
  refine va_sld hx hb hX hbl hbA hS (i := nI i + 1) i1 dL_law_1390 ?_
  refine lv_aload_n hx hb dL_law_1391 rfl (lv_at hl 3 rfl) ?_
  refine m_calli (vx_runSW (As := [.ref c0, .int (xs (nI i + 1).toNatClampNeg), .ref o1]) (rest := []) ⟨hx, hb, hml, hown, hts⟩ (w_L_release (l := l) hfl (D := D) (H.size) hW (xs (nI i + 1).toNatClampNeg) ) (vx_cwSW 3 hts (goodIn_l gL_law_L_release) rfl rfl rfl (by decide +kernel) ⟨Nat.le_of_ble_eq_true rfl, Nat.le_of_ble_eq_true rfl⟩) (l_preS hN hE hV hS hA) rfl rfl hl.1 rfl (lv_room (by first | exact Nat.le_of_ble_eq_true rfl | simp [rf_cat, ct_ref, ct_int, ct_null, ct_long])) dL_law_1392 (room_c hc hs (by omega) (by omega))) hV hS hA (fun r h1 H locs hV hS hp _ => ?_)
  obtain ⟨σ1, v, hW, hrow, hoc⟩ := hp
  refine lv_istore (lv' := [(6, .int r), (0, .ref b), (1, .ref c0), (2, .ref m0), (3, .ref o1), (4, .ref o2), (5, .int (nI i))]) hx hb dL_law_1395 hl (by decide) rfl (fun ls hl => ?_)
  refine lv_aload_n hx hb dL_law_1397 rfl (lv_at hl 3 rfl) ?_
  refine lv_aload_n hx hb dL_law_1398 rfl (lv_at hl 1 rfl) ?_
  refine lv_iload hx hb dL_law_1399 (lv_at hl 6 rfl) ?_
  refine lv_iconst (v := 1) hx hb dL_law_1401 (by decide) ?_
  refine lv_iadd hx hb dL_law_1402 ?_
  refine va_sld hx hb hX hbl hbA hS (i := nI i + 1) i1 dL_law_1403 ?_
  obtain ⟨fs, hf⟩ := hW.m0
  refine m_calli (va_runV (As := [.int (xs (nI i + 1).toNatClampNeg)]) (rest := []) ⟨hx, hb, hml, hown, hts⟩ (w_X5_release (l := l) (H.size) hW (xs (nI i + 1).toNatClampNeg) ) (cwV 1 hts (gL_law_X5_release.up wsL_law_in) rfl rfl rfl (by decide +kernel) ⟨Nat.le_of_ble_eq_true rfl, Nat.le_of_ble_eq_true rfl⟩) (m_preV (r := (RX5, TX5, 34)) hE hV hS hA hf rfl) rfl rfl hl.1 rfl (lv_room (by exact Nat.le_of_ble_eq_true rfl)) dL_law_1404 (room_c hc hs (by omega) (by omega))) hV hS hA (fun b2 h2 H locs hV hS hp _ => ?_)
  obtain ⟨μ1, hW, k1, k2, hom⟩ := hp
  refine lv_istore (lv' := [(7, .int b2), (6, .int r), (0, .ref b), (1, .ref c0), (2, .ref m0), (3, .ref o1), (4, .ref o2), (5, .int (nI i))]) hx hb dL_law_1407 hl (by decide) rfl (fun ls hl => ?_)
  refine lv_aload_n hx hb dL_law_1409 rfl (lv_at hl 4 rfl) ?_
  obtain ⟨fs, hf⟩ := hW.m0
  refine m_calli (va_runV (As := []) (rest := []) ⟨hx, hb, hml, hown, hts⟩ (w_X5_thrown (l := l) (H.size) hW) (cwV 0 hts (gL_law_X5_thrown.up wsL_law_in) rfl rfl rfl (by decide +kernel) ⟨Nat.le_of_ble_eq_true rfl, Nat.le_of_ble_eq_true rfl⟩) (m_preV (r := (RX5, TX5, 34)) hE hV hS hA hf rfl) rfl rfl hl.1 rfl (lv_room (by exact Nat.le_of_ble_eq_true rfl)) dL_law_1410 (room_c hc hs (by omega) (by omega))) hV hS hA (fun r3 h3 H locs hV hS hp _ => ?_)
  obtain ⟨e3, e4⟩ := hp
  rw [e3] at hV
  clear e3
  subst e4
  refine lv_iload hx hb dL_law_1413 (lv_at hl 1 rfl) ?_
  obtain ⟨hr1, hth, hval⟩ := R.s_release _ _ _ _ _ _ _ _ _ hj hw0 hr hoc hom hW.wf
  refine lv_icmp_eq (tgt := 1420) hx hb dL_law_1415 (by decide) (fun _ => ?_) (fun z => absurd hth z)
  refine lv_iload hx hb dL_law_1420 (lv_at hl 1 rfl) ?_
  have kq := kk _ _ _ _ _ _ hV hS hW hr1 (lv_sub hl [2, 3, 4, 5, 6, 7] rfl)
  refine lv_if_ne (tgt := 1437) hx hb dL_law_1422 (by decide) (fun c9 => ?_) (fun c9 => ?_)
  · exact lv_goto (tgt := 1902) hx hb dL_law_1437 (by decide) (W.widen (by omega) (by omega) kq)
  have r0 : r = 0 := c9
  have hv := hval r0
  obtain ⟨f, hrow, hf0⟩ := hrow r0
  refine lv_aload_n hx hb dL_law_1425 rfl (lv_at hl 5 rfl) ?_
  refine lv_iconst (v := 0) hx hb dL_law_1426 (by decide) ?_
  refine m_lald hx hb hK hV 1 (i := 0) (f := f) (x := v) (by rw [k1]; exact hrow) rfl (show vp_in (nI 0) 1 from vp_in_nI (by decide) (by decide)) (by rw [← hf0]; rfl) dL_law_1427 ?_
  refine lv_iload hx hb dL_law_1428 (lv_at hl 0 rfl) ?_
  refine lv_i2l (v := (b2).toInt64) hx hb dL_law_1430 rfl ?_
  refine m_lcmp_eq (tgt := 1437) hx hb dL_law_1431 dL_law_1432 (by decide) (fun _ => ?_) (fun z => absurd hv z)
  refine lv_goto (tgt := 1902) hx hb dL_law_1437 (by decide) ?_
  exact W.widen (by omega) (by omega) kq
set_option maxRecDepth 100000 in
set_option maxHeartbeats 4000000 in
theorem law_holderOf {p : Program} {l : Launch} {e : Env} {s : State} {m : MethodId} {below : List Frame} {meth : Method} {c : Code} {b L : Nat} {xs : Nat → Int32} {D : va_G} {cs : mC} {df : Nat} {A : Nat → Prop} (C : LC p l s m c b L xs D cs df A) {Rl : Nat → KS → KS → Prop} (R : SimP Rl) {c0 m0 o1 o2 : Nat} {σ μ : KS} {h : mH} {H : Heap} {locs : List Loc} {cells slots : Nat} {Q : State → Prop} (hV : mV D h A H) (hS : va_S A s.heap H locs) (hW : DSt cs df c0 m0 o1 o2 σ μ h) {j : Nat} (hj : j < 512) (hr : Rl j σ μ) {i : Nat} (hi : i + 5 ≤ L) {ls : Array Slot} (hl : lv_has ls 9 (lawL b c0 m0 o1 o2 i)) (hc : cells + 8 ≤ 603072) (hs : slots + 400 ≤ 7223402) (kk : ∀ (σ1 μ1 : KS) (h1 : mH) (H1 : Heap) (locs1 : List Loc) (ls1 : Array Slot), mV D h1 A H1 → va_S A s.heap H1 locs1 → DSt cs df c0 m0 o1 o2 σ1 μ1 h1 → Rl (j + 1) σ1 μ1 → lv_has ls1 9 (lawL b c0 m0 o1 o2 i) → W p l e room_1 s m #[Value.ref b] below meth c H1 locs1 (cells + 8) (slots + 400) Q (F0 m 1902 ls1 [])) : W p l e room_1 s m #[Value.ref b] below meth c H locs cells slots Q (F0 m 1440 ls []) := by
  obtain ⟨hx, hb, hml, hown, hts, hX, hbl, hbA, hE, hN, hA, hfl, hL⟩ := C
  have hK := hE.1.1
  have hw0 := hW.wf
  have i1 : vp_in (nI i + 1) L := lw_in (k := 1) (by decide) hi hL
  have i2 : vp_in (nI i + 2) L := lw_in (k := 2) (by decide) hi hL
  have i3 : vp_in (nI i + 3) L := lw_in (k := 3) (by decide) hi hL
  have i4 : vp_in (nI i + 4) L := lw_in (k := 4) (by decide) hi hL
  refine lv_aload_n hx hb dL_law_1440 rfl (lv_at hl 1 rfl) ?_
  refine lv_aload_n hx hb dL_law_1441 rfl (lv_at hl 0 rfl) ?_
  refine lv_iload hx hb dL_law_1442 (lv_at hl 5 rfl) ?_
  refine lv_iconst (v := 1) hx hb dL_law_1444 (by decide) ?_
  refine lv_iadd hx hb dL_law_1445 ?_
  refine va_sld hx hb hX hbl hbA hS (i := nI i + 1) i1 dL_law_1446 ?_
  refine lv_aload_n hx hb dL_law_1447 rfl (lv_at hl 3 rfl) ?_
  refine m_calli (vx_runSW (As := [.ref c0, .int (xs (nI i + 1).toNatClampNeg), .ref o1]) (rest := []) ⟨hx, hb, hml, hown, hts⟩ (w_L_holderOf (l := l) hfl (D := D) (H.size) hW (xs (nI i + 1).toNatClampNeg) ) (vx_cwSW 3 hts (goodIn_l gL_law_L_holderOf) rfl rfl rfl (by decide +kernel) ⟨Nat.le_of_ble_eq_true rfl, Nat.le_of_ble_eq_true rfl⟩) (l_preS hN hE hV hS hA) rfl rfl hl.1 rfl (lv_room (by first | exact Nat.le_of_ble_eq_true rfl | simp [rf_cat, ct_ref, ct_int, ct_null, ct_long])) dL_law_1448 (room_c hc hs (by omega) (by omega))) hV hS hA (fun r h1 H locs hV hS hp _ => ?_)
  obtain ⟨σ1, v, hW, hrow, hoc⟩ := hp
  refine lv_istore (lv' := [(6, .int r), (0, .ref b), (1, .ref c0), (2, .ref m0), (3, .ref o1), (4, .ref o2), (5, .int (nI i))]) hx hb dL_law_1451 hl (by decide) rfl (fun ls hl => ?_)
  refine lv_aload_n hx hb dL_law_1453 rfl (lv_at hl 3 rfl) ?_
  refine lv_aload_n hx hb dL_law_1454 rfl (lv_at hl 1 rfl) ?_
  refine lv_iload hx hb dL_law_1455 (lv_at hl 6 rfl) ?_
  refine lv_iconst (v := 1) hx hb dL_law_1457 (by decide) ?_
  refine lv_iadd hx hb dL_law_1458 ?_
  refine va_sld hx hb hX hbl hbA hS (i := nI i + 1) i1 dL_law_1459 ?_
  obtain ⟨fs, hf⟩ := hW.m0
  refine m_calli (va_runV (As := [.int (xs (nI i + 1).toNatClampNeg)]) (rest := []) ⟨hx, hb, hml, hown, hts⟩ (w_X5_holderOf (l := l) (H.size) hW (xs (nI i + 1).toNatClampNeg) ) (cwV 1 hts (gL_law_X5_holderOf.up wsL_law_in) rfl rfl rfl (by decide +kernel) ⟨Nat.le_of_ble_eq_true rfl, Nat.le_of_ble_eq_true rfl⟩) (m_preV (r := (RX5, TX5, 34)) hE hV hS hA hf rfl) rfl rfl hl.1 rfl (lv_room (by exact Nat.le_of_ble_eq_true rfl)) dL_law_1460 (room_c hc hs (by omega) (by omega))) hV hS hA (fun b2 h2 H locs hV hS hp _ => ?_)
  obtain ⟨μ1, hW, k1, k2, hom⟩ := hp
  refine lv_istore (lv' := [(7, .int b2), (6, .int r), (0, .ref b), (1, .ref c0), (2, .ref m0), (3, .ref o1), (4, .ref o2), (5, .int (nI i))]) hx hb dL_law_1463 hl (by decide) rfl (fun ls hl => ?_)
  refine lv_aload_n hx hb dL_law_1465 rfl (lv_at hl 4 rfl) ?_
  obtain ⟨fs, hf⟩ := hW.m0
  refine m_calli (va_runV (As := []) (rest := []) ⟨hx, hb, hml, hown, hts⟩ (w_X5_thrown (l := l) (H.size) hW) (cwV 0 hts (gL_law_X5_thrown.up wsL_law_in) rfl rfl rfl (by decide +kernel) ⟨Nat.le_of_ble_eq_true rfl, Nat.le_of_ble_eq_true rfl⟩) (m_preV (r := (RX5, TX5, 34)) hE hV hS hA hf rfl) rfl rfl hl.1 rfl (lv_room (by exact Nat.le_of_ble_eq_true rfl)) dL_law_1466 (room_c hc hs (by omega) (by omega))) hV hS hA (fun r3 h3 H locs hV hS hp _ => ?_)
  obtain ⟨e3, e4⟩ := hp
  rw [e3] at hV
  clear e3
  subst e4
  refine lv_iload hx hb dL_law_1469 (lv_at hl 1 rfl) ?_
  obtain ⟨hr1, hth, hval⟩ := R.s_holderOf _ _ _ _ _ _ _ _ _ hj hw0 hr hoc hom hW.wf
  refine lv_icmp_eq (tgt := 1476) hx hb dL_law_1471 (by decide) (fun _ => ?_) (fun z => absurd hth z)
  refine lv_iload hx hb dL_law_1476 (lv_at hl 1 rfl) ?_
  have kq := kk _ _ _ _ _ _ hV hS hW hr1 (lv_sub hl [2, 3, 4, 5, 6, 7] rfl)
  refine lv_if_ne (tgt := 1493) hx hb dL_law_1478 (by decide) (fun c9 => ?_) (fun c9 => ?_)
  · exact lv_goto (tgt := 1902) hx hb dL_law_1493 (by decide) (W.widen (by omega) (by omega) kq)
  have r0 : r = 0 := c9
  have hv := hval r0
  obtain ⟨f, hrow, hf0⟩ := hrow r0
  refine lv_aload_n hx hb dL_law_1481 rfl (lv_at hl 5 rfl) ?_
  refine lv_iconst (v := 0) hx hb dL_law_1482 (by decide) ?_
  refine m_lald hx hb hK hV 1 (i := 0) (f := f) (x := v) (by rw [k1]; exact hrow) rfl (show vp_in (nI 0) 1 from vp_in_nI (by decide) (by decide)) (by rw [← hf0]; rfl) dL_law_1483 ?_
  refine lv_iload hx hb dL_law_1484 (lv_at hl 0 rfl) ?_
  refine lv_i2l (v := (b2).toInt64) hx hb dL_law_1486 rfl ?_
  refine m_lcmp_eq (tgt := 1493) hx hb dL_law_1487 dL_law_1488 (by decide) (fun _ => ?_) (fun z => absurd hv z)
  refine lv_goto (tgt := 1902) hx hb dL_law_1493 (by decide) ?_
  exact W.widen (by omega) (by omega) kq
set_option maxRecDepth 100000 in
set_option maxHeartbeats 4000000 in
theorem law_waiterAt {p : Program} {l : Launch} {e : Env} {s : State} {m : MethodId} {below : List Frame} {meth : Method} {c : Code} {b L : Nat} {xs : Nat → Int32} {D : va_G} {cs : mC} {df : Nat} {A : Nat → Prop} (C : LC p l s m c b L xs D cs df A) {Rl : Nat → KS → KS → Prop} (R : SimP Rl) {c0 m0 o1 o2 : Nat} {σ μ : KS} {h : mH} {H : Heap} {locs : List Loc} {cells slots : Nat} {Q : State → Prop} (hV : mV D h A H) (hS : va_S A s.heap H locs) (hW : DSt cs df c0 m0 o1 o2 σ μ h) {j : Nat} (hj : j < 512) (hr : Rl j σ μ) {i : Nat} (hi : i + 5 ≤ L) {ls : Array Slot} (hl : lv_has ls 9 (lawL b c0 m0 o1 o2 i)) (hc : cells + 8 ≤ 603072) (hs : slots + 400 ≤ 7223402) (kk : ∀ (σ1 μ1 : KS) (h1 : mH) (H1 : Heap) (locs1 : List Loc) (ls1 : Array Slot), mV D h1 A H1 → va_S A s.heap H1 locs1 → DSt cs df c0 m0 o1 o2 σ1 μ1 h1 → Rl (j + 1) σ1 μ1 → lv_has ls1 9 (lawL b c0 m0 o1 o2 i) → W p l e room_1 s m #[Value.ref b] below meth c H1 locs1 (cells + 8) (slots + 400) Q (F0 m 1902 ls1 [])) : W p l e room_1 s m #[Value.ref b] below meth c H locs cells slots Q (F0 m 1496 ls []) := by
  obtain ⟨hx, hb, hml, hown, hts, hX, hbl, hbA, hE, hN, hA, hfl, hL⟩ := C
  have hK := hE.1.1
  have hw0 := hW.wf
  have i1 : vp_in (nI i + 1) L := lw_in (k := 1) (by decide) hi hL
  have i2 : vp_in (nI i + 2) L := lw_in (k := 2) (by decide) hi hL
  have i3 : vp_in (nI i + 3) L := lw_in (k := 3) (by decide) hi hL
  have i4 : vp_in (nI i + 4) L := lw_in (k := 4) (by decide) hi hL
  refine lv_aload_n hx hb dL_law_1496 rfl (lv_at hl 1 rfl) ?_
  refine lv_aload_n hx hb dL_law_1497 rfl (lv_at hl 0 rfl) ?_
  refine lv_iload hx hb dL_law_1498 (lv_at hl 5 rfl) ?_
  refine lv_iconst (v := 1) hx hb dL_law_1500 (by decide) ?_
  refine lv_iadd hx hb dL_law_1501 ?_
  refine va_sld hx hb hX hbl hbA hS (i := nI i + 1) i1 dL_law_1502 ?_
  refine lv_aload_n hx hb dL_law_1503 rfl (lv_at hl 0 rfl) ?_
  refine lv_iload hx hb dL_law_1504 (lv_at hl 5 rfl) ?_
  refine lv_iconst (v := 2) hx hb dL_law_1506 (by decide) ?_
  refine lv_iadd hx hb dL_law_1507 ?_
  refine va_sld hx hb hX hbl hbA hS (i := nI i + 2) i2 dL_law_1508 ?_
  refine lv_aload_n hx hb dL_law_1509 rfl (lv_at hl 3 rfl) ?_
  refine m_calli (vx_runSW (As := [.ref c0, .int (xs (nI i + 1).toNatClampNeg), .int (xs (nI i + 2).toNatClampNeg), .ref o1]) (rest := []) ⟨hx, hb, hml, hown, hts⟩ (w_L_waiterAt (l := l) hfl (D := D) (H.size) hW (xs (nI i + 1).toNatClampNeg) (xs (nI i + 2).toNatClampNeg) ) (vx_cwSW 4 hts (goodIn_l gL_law_L_waiterAt) rfl rfl rfl (by decide +kernel) ⟨Nat.le_of_ble_eq_true rfl, Nat.le_of_ble_eq_true rfl⟩) (l_preS hN hE hV hS hA) rfl rfl hl.1 rfl (lv_room (by first | exact Nat.le_of_ble_eq_true rfl | simp [rf_cat, ct_ref, ct_int, ct_null, ct_long])) dL_law_1510 (room_c hc hs (by omega) (by omega))) hV hS hA (fun r h1 H locs hV hS hp _ => ?_)
  obtain ⟨σ1, v, hW, hrow, hoc⟩ := hp
  refine lv_istore (lv' := [(6, .int r), (0, .ref b), (1, .ref c0), (2, .ref m0), (3, .ref o1), (4, .ref o2), (5, .int (nI i))]) hx hb dL_law_1513 hl (by decide) rfl (fun ls hl => ?_)
  refine lv_aload_n hx hb dL_law_1515 rfl (lv_at hl 3 rfl) ?_
  refine lv_aload_n hx hb dL_law_1516 rfl (lv_at hl 1 rfl) ?_
  refine lv_iload hx hb dL_law_1517 (lv_at hl 6 rfl) ?_
  refine lv_iconst (v := 1) hx hb dL_law_1519 (by decide) ?_
  refine lv_iadd hx hb dL_law_1520 ?_
  refine va_sld hx hb hX hbl hbA hS (i := nI i + 1) i1 dL_law_1521 ?_
  refine lv_aload_n hx hb dL_law_1522 rfl (lv_at hl 1 rfl) ?_
  refine lv_iload hx hb dL_law_1523 (lv_at hl 6 rfl) ?_
  refine lv_iconst (v := 2) hx hb dL_law_1525 (by decide) ?_
  refine lv_iadd hx hb dL_law_1526 ?_
  refine va_sld hx hb hX hbl hbA hS (i := nI i + 2) i2 dL_law_1527 ?_
  obtain ⟨fs, hf⟩ := hW.m0
  refine m_calli (va_runV (As := [.int (xs (nI i + 1).toNatClampNeg), .int (xs (nI i + 2).toNatClampNeg)]) (rest := []) ⟨hx, hb, hml, hown, hts⟩ (w_X5_waiterAt (l := l) (H.size) hW (xs (nI i + 1).toNatClampNeg) (xs (nI i + 2).toNatClampNeg) ) (cwV 2 hts (gL_law_X5_waiterAt.up wsL_law_in) rfl rfl rfl (by decide +kernel) ⟨Nat.le_of_ble_eq_true rfl, Nat.le_of_ble_eq_true rfl⟩) (m_preV (r := (RX5, TX5, 34)) hE hV hS hA hf rfl) rfl rfl hl.1 rfl (lv_room (by exact Nat.le_of_ble_eq_true rfl)) dL_law_1528 (room_c hc hs (by omega) (by omega))) hV hS hA (fun b2 h2 H locs hV hS hp _ => ?_)
  obtain ⟨μ1, hW, k1, k2, hom⟩ := hp
  refine lv_istore (lv' := [(7, .int b2), (6, .int r), (0, .ref b), (1, .ref c0), (2, .ref m0), (3, .ref o1), (4, .ref o2), (5, .int (nI i))]) hx hb dL_law_1531 hl (by decide) rfl (fun ls hl => ?_)
  refine lv_aload_n hx hb dL_law_1533 rfl (lv_at hl 4 rfl) ?_
  obtain ⟨fs, hf⟩ := hW.m0
  refine m_calli (va_runV (As := []) (rest := []) ⟨hx, hb, hml, hown, hts⟩ (w_X5_thrown (l := l) (H.size) hW) (cwV 0 hts (gL_law_X5_thrown.up wsL_law_in) rfl rfl rfl (by decide +kernel) ⟨Nat.le_of_ble_eq_true rfl, Nat.le_of_ble_eq_true rfl⟩) (m_preV (r := (RX5, TX5, 34)) hE hV hS hA hf rfl) rfl rfl hl.1 rfl (lv_room (by exact Nat.le_of_ble_eq_true rfl)) dL_law_1534 (room_c hc hs (by omega) (by omega))) hV hS hA (fun r3 h3 H locs hV hS hp _ => ?_)
  obtain ⟨e3, e4⟩ := hp
  rw [e3] at hV
  clear e3
  subst e4
  refine lv_iload hx hb dL_law_1537 (lv_at hl 1 rfl) ?_
  obtain ⟨hr1, hth, hval⟩ := R.s_waiterAt _ _ _ _ _ _ _ _ _ _ hj hw0 hr hoc hom hW.wf
  refine lv_icmp_eq (tgt := 1544) hx hb dL_law_1539 (by decide) (fun _ => ?_) (fun z => absurd hth z)
  refine lv_iload hx hb dL_law_1544 (lv_at hl 1 rfl) ?_
  have kq := kk _ _ _ _ _ _ hV hS hW hr1 (lv_sub hl [2, 3, 4, 5, 6, 7] rfl)
  refine lv_if_ne (tgt := 1561) hx hb dL_law_1546 (by decide) (fun c9 => ?_) (fun c9 => ?_)
  · exact lv_goto (tgt := 1902) hx hb dL_law_1561 (by decide) (W.widen (by omega) (by omega) kq)
  have r0 : r = 0 := c9
  have hv := hval r0
  obtain ⟨f, hrow, hf0⟩ := hrow r0
  refine lv_aload_n hx hb dL_law_1549 rfl (lv_at hl 5 rfl) ?_
  refine lv_iconst (v := 0) hx hb dL_law_1550 (by decide) ?_
  refine m_lald hx hb hK hV 1 (i := 0) (f := f) (x := v) (by rw [k1]; exact hrow) rfl (show vp_in (nI 0) 1 from vp_in_nI (by decide) (by decide)) (by rw [← hf0]; rfl) dL_law_1551 ?_
  refine lv_iload hx hb dL_law_1552 (lv_at hl 0 rfl) ?_
  refine lv_i2l (v := (b2).toInt64) hx hb dL_law_1554 rfl ?_
  refine m_lcmp_eq (tgt := 1561) hx hb dL_law_1555 dL_law_1556 (by decide) (fun _ => ?_) (fun z => absurd hv z)
  refine lv_goto (tgt := 1902) hx hb dL_law_1561 (by decide) ?_
  exact W.widen (by omega) (by omega) kq
set_option maxRecDepth 100000 in
set_option maxHeartbeats 4000000 in
theorem law_choice {p : Program} {l : Launch} {e : Env} {s : State} {m : MethodId} {below : List Frame} {meth : Method} {c : Code} {b L : Nat} {xs : Nat → Int32} {D : va_G} {cs : mC} {df : Nat} {A : Nat → Prop} (C : LC p l s m c b L xs D cs df A) {Rl : Nat → KS → KS → Prop} (R : SimP Rl) {c0 m0 o1 o2 : Nat} {σ μ : KS} {h : mH} {H : Heap} {locs : List Loc} {cells slots : Nat} {Q : State → Prop} (hV : mV D h A H) (hS : va_S A s.heap H locs) (hW : DSt cs df c0 m0 o1 o2 σ μ h) {j : Nat} (hj : j < 512) (hr : Rl j σ μ) {i : Nat} (hi : i + 5 ≤ L) {ls : Array Slot} (hl : lv_has ls 9 (lawL b c0 m0 o1 o2 i)) (hc : cells + 8 ≤ 603072) (hs : slots + 400 ≤ 7223402) (kk : ∀ (σ1 μ1 : KS) (h1 : mH) (H1 : Heap) (locs1 : List Loc) (ls1 : Array Slot), mV D h1 A H1 → va_S A s.heap H1 locs1 → DSt cs df c0 m0 o1 o2 σ1 μ1 h1 → Rl (j + 1) σ1 μ1 → lv_has ls1 9 (lawL b c0 m0 o1 o2 i) → W p l e room_1 s m #[Value.ref b] below meth c H1 locs1 (cells + 8) (slots + 400) Q (F0 m 1902 ls1 [])) : W p l e room_1 s m #[Value.ref b] below meth c H locs cells slots Q (F0 m 1564 ls []) := by
  obtain ⟨hx, hb, hml, hown, hts, hX, hbl, hbA, hE, hN, hA, hfl, hL⟩ := C
  have hK := hE.1.1
  have hw0 := hW.wf
  have i1 : vp_in (nI i + 1) L := lw_in (k := 1) (by decide) hi hL
  have i2 : vp_in (nI i + 2) L := lw_in (k := 2) (by decide) hi hL
  have i3 : vp_in (nI i + 3) L := lw_in (k := 3) (by decide) hi hL
  have i4 : vp_in (nI i + 4) L := lw_in (k := 4) (by decide) hi hL
  refine lv_aload_n hx hb dL_law_1564 rfl (lv_at hl 1 rfl) ?_
  refine lv_aload_n hx hb dL_law_1565 rfl (lv_at hl 0 rfl) ?_
  refine lv_iload hx hb dL_law_1566 (lv_at hl 5 rfl) ?_
  refine lv_iconst (v := 1) hx hb dL_law_1568 (by decide) ?_
  refine lv_iadd hx hb dL_law_1569 ?_
  refine va_sld hx hb hX hbl hbA hS (i := nI i + 1) i1 dL_law_1570 ?_
  refine lv_aload_n hx hb dL_law_1571 rfl (lv_at hl 3 rfl) ?_
  refine m_calli (vx_runSW (As := [.ref c0, .int (xs (nI i + 1).toNatClampNeg), .ref o1]) (rest := []) ⟨hx, hb, hml, hown, hts⟩ (w_L_choice (l := l) hfl (D := D) (H.size) hW (xs (nI i + 1).toNatClampNeg) ) (vx_cwSW 3 hts (goodIn_l gL_law_L_choice) rfl rfl rfl (by decide +kernel) ⟨Nat.le_of_ble_eq_true rfl, Nat.le_of_ble_eq_true rfl⟩) (l_preS hN hE hV hS hA) rfl rfl hl.1 rfl (lv_room (by first | exact Nat.le_of_ble_eq_true rfl | simp [rf_cat, ct_ref, ct_int, ct_null, ct_long])) dL_law_1572 (room_c hc hs (by omega) (by omega))) hV hS hA (fun r h1 H locs hV hS hp _ => ?_)
  obtain ⟨σ1, v, hW, hrow, hoc⟩ := hp
  refine lv_istore (lv' := [(6, .int r), (0, .ref b), (1, .ref c0), (2, .ref m0), (3, .ref o1), (4, .ref o2), (5, .int (nI i))]) hx hb dL_law_1575 hl (by decide) rfl (fun ls hl => ?_)
  refine lv_aload_n hx hb dL_law_1577 rfl (lv_at hl 3 rfl) ?_
  refine lv_aload_n hx hb dL_law_1578 rfl (lv_at hl 1 rfl) ?_
  refine lv_iload hx hb dL_law_1579 (lv_at hl 6 rfl) ?_
  refine lv_iconst (v := 1) hx hb dL_law_1581 (by decide) ?_
  refine lv_iadd hx hb dL_law_1582 ?_
  refine va_sld hx hb hX hbl hbA hS (i := nI i + 1) i1 dL_law_1583 ?_
  obtain ⟨fs, hf⟩ := hW.m0
  refine m_calli (va_runV (As := [.int (xs (nI i + 1).toNatClampNeg)]) (rest := []) ⟨hx, hb, hml, hown, hts⟩ (w_X5_choice (l := l) (H.size) hW (xs (nI i + 1).toNatClampNeg) ) (cwV 1 hts (gL_law_X5_choice.up wsL_law_in) rfl rfl rfl (by decide +kernel) ⟨Nat.le_of_ble_eq_true rfl, Nat.le_of_ble_eq_true rfl⟩) (m_preV (r := (RX5, TX5, 34)) hE hV hS hA hf rfl) rfl rfl hl.1 rfl (lv_room (by exact Nat.le_of_ble_eq_true rfl)) dL_law_1584 (room_c hc hs (by omega) (by omega))) hV hS hA (fun b2 h2 H locs hV hS hp _ => ?_)
  obtain ⟨μ1, hW, k1, k2, hom⟩ := hp
  refine lv_istore (lv' := [(7, .int b2), (6, .int r), (0, .ref b), (1, .ref c0), (2, .ref m0), (3, .ref o1), (4, .ref o2), (5, .int (nI i))]) hx hb dL_law_1587 hl (by decide) rfl (fun ls hl => ?_)
  refine lv_aload_n hx hb dL_law_1589 rfl (lv_at hl 4 rfl) ?_
  obtain ⟨fs, hf⟩ := hW.m0
  refine m_calli (va_runV (As := []) (rest := []) ⟨hx, hb, hml, hown, hts⟩ (w_X5_thrown (l := l) (H.size) hW) (cwV 0 hts (gL_law_X5_thrown.up wsL_law_in) rfl rfl rfl (by decide +kernel) ⟨Nat.le_of_ble_eq_true rfl, Nat.le_of_ble_eq_true rfl⟩) (m_preV (r := (RX5, TX5, 34)) hE hV hS hA hf rfl) rfl rfl hl.1 rfl (lv_room (by exact Nat.le_of_ble_eq_true rfl)) dL_law_1590 (room_c hc hs (by omega) (by omega))) hV hS hA (fun r3 h3 H locs hV hS hp _ => ?_)
  obtain ⟨e3, e4⟩ := hp
  rw [e3] at hV
  clear e3
  subst e4
  refine lv_iload hx hb dL_law_1593 (lv_at hl 1 rfl) ?_
  obtain ⟨hr1, hth, hval⟩ := R.s_choice _ _ _ _ _ _ _ _ _ hj hw0 hr hoc hom hW.wf
  refine lv_icmp_eq (tgt := 1600) hx hb dL_law_1595 (by decide) (fun _ => ?_) (fun z => absurd hth z)
  refine lv_iload hx hb dL_law_1600 (lv_at hl 1 rfl) ?_
  have kq := kk _ _ _ _ _ _ hV hS hW hr1 (lv_sub hl [2, 3, 4, 5, 6, 7] rfl)
  refine lv_if_ne (tgt := 1617) hx hb dL_law_1602 (by decide) (fun c9 => ?_) (fun c9 => ?_)
  · exact lv_goto (tgt := 1902) hx hb dL_law_1617 (by decide) (W.widen (by omega) (by omega) kq)
  have r0 : r = 0 := c9
  have hv := hval r0
  obtain ⟨f, hrow, hf0⟩ := hrow r0
  refine lv_aload_n hx hb dL_law_1605 rfl (lv_at hl 5 rfl) ?_
  refine lv_iconst (v := 0) hx hb dL_law_1606 (by decide) ?_
  refine m_lald hx hb hK hV 1 (i := 0) (f := f) (x := v) (by rw [k1]; exact hrow) rfl (show vp_in (nI 0) 1 from vp_in_nI (by decide) (by decide)) (by rw [← hf0]; rfl) dL_law_1607 ?_
  refine lv_iload hx hb dL_law_1608 (lv_at hl 0 rfl) ?_
  refine lv_i2l (v := (b2).toInt64) hx hb dL_law_1610 rfl ?_
  refine m_lcmp_eq (tgt := 1617) hx hb dL_law_1611 dL_law_1612 (by decide) (fun _ => ?_) (fun z => absurd hv z)
  refine lv_goto (tgt := 1902) hx hb dL_law_1617 (by decide) ?_
  exact W.widen (by omega) (by omega) kq
set_option maxRecDepth 100000 in
set_option maxHeartbeats 4000000 in
theorem law_choiceByComparing {p : Program} {l : Launch} {e : Env} {s : State} {m : MethodId} {below : List Frame} {meth : Method} {c : Code} {b L : Nat} {xs : Nat → Int32} {D : va_G} {cs : mC} {df : Nat} {A : Nat → Prop} (C : LC p l s m c b L xs D cs df A) {Rl : Nat → KS → KS → Prop} (R : SimP Rl) {c0 m0 o1 o2 : Nat} {σ μ : KS} {h : mH} {H : Heap} {locs : List Loc} {cells slots : Nat} {Q : State → Prop} (hV : mV D h A H) (hS : va_S A s.heap H locs) (hW : DSt cs df c0 m0 o1 o2 σ μ h) {j : Nat} (hj : j < 512) (hr : Rl j σ μ) {i : Nat} (hi : i + 5 ≤ L) {ls : Array Slot} (hl : lv_has ls 9 (lawL b c0 m0 o1 o2 i)) (hc : cells + 8 ≤ 603072) (hs : slots + 400 ≤ 7223402) (kk : ∀ (σ1 μ1 : KS) (h1 : mH) (H1 : Heap) (locs1 : List Loc) (ls1 : Array Slot), mV D h1 A H1 → va_S A s.heap H1 locs1 → DSt cs df c0 m0 o1 o2 σ1 μ1 h1 → Rl (j + 1) σ1 μ1 → lv_has ls1 9 (lawL b c0 m0 o1 o2 i) → W p l e room_1 s m #[Value.ref b] below meth c H1 locs1 (cells + 8) (slots + 400) Q (F0 m 1902 ls1 [])) : W p l e room_1 s m #[Value.ref b] below meth c H locs cells slots Q (F0 m 1620 ls []) := by
  obtain ⟨hx, hb, hml, hown, hts, hX, hbl, hbA, hE, hN, hA, hfl, hL⟩ := C
  have hK := hE.1.1
  have hw0 := hW.wf
  have i1 : vp_in (nI i + 1) L := lw_in (k := 1) (by decide) hi hL
  have i2 : vp_in (nI i + 2) L := lw_in (k := 2) (by decide) hi hL
  have i3 : vp_in (nI i + 3) L := lw_in (k := 3) (by decide) hi hL
  have i4 : vp_in (nI i + 4) L := lw_in (k := 4) (by decide) hi hL
  refine lv_aload_n hx hb dL_law_1620 rfl (lv_at hl 1 rfl) ?_
  refine lv_aload_n hx hb dL_law_1621 rfl (lv_at hl 0 rfl) ?_
  refine lv_iload hx hb dL_law_1622 (lv_at hl 5 rfl) ?_
  refine lv_iconst (v := 1) hx hb dL_law_1624 (by decide) ?_
  refine lv_iadd hx hb dL_law_1625 ?_
  refine va_sld hx hb hX hbl hbA hS (i := nI i + 1) i1 dL_law_1626 ?_
  refine lv_aload_n hx hb dL_law_1627 rfl (lv_at hl 3 rfl) ?_
  refine m_calli (vx_runSW (As := [.ref c0, .int (xs (nI i + 1).toNatClampNeg), .ref o1]) (rest := []) ⟨hx, hb, hml, hown, hts⟩ (w_L_choiceByComparing (l := l) hfl (D := D) (H.size) hW (xs (nI i + 1).toNatClampNeg) ) (vx_cwSW 3 hts (goodIn_l gL_law_L_choiceByComparing) rfl rfl rfl (by decide +kernel) ⟨Nat.le_of_ble_eq_true rfl, Nat.le_of_ble_eq_true rfl⟩) (l_preS hN hE hV hS hA) rfl rfl hl.1 rfl (lv_room (by first | exact Nat.le_of_ble_eq_true rfl | simp [rf_cat, ct_ref, ct_int, ct_null, ct_long])) dL_law_1628 (room_c hc hs (by omega) (by omega))) hV hS hA (fun r h1 H locs hV hS hp _ => ?_)
  obtain ⟨σ1, v, hW, hrow, hoc⟩ := hp
  refine lv_istore (lv' := [(6, .int r), (0, .ref b), (1, .ref c0), (2, .ref m0), (3, .ref o1), (4, .ref o2), (5, .int (nI i))]) hx hb dL_law_1631 hl (by decide) rfl (fun ls hl => ?_)
  refine lv_aload_n hx hb dL_law_1633 rfl (lv_at hl 3 rfl) ?_
  refine lv_aload_n hx hb dL_law_1634 rfl (lv_at hl 1 rfl) ?_
  refine lv_iload hx hb dL_law_1635 (lv_at hl 6 rfl) ?_
  refine lv_iconst (v := 1) hx hb dL_law_1637 (by decide) ?_
  refine lv_iadd hx hb dL_law_1638 ?_
  refine va_sld hx hb hX hbl hbA hS (i := nI i + 1) i1 dL_law_1639 ?_
  obtain ⟨fs, hf⟩ := hW.m0
  refine m_calli (va_runV (As := [.int (xs (nI i + 1).toNatClampNeg)]) (rest := []) ⟨hx, hb, hml, hown, hts⟩ (w_X5_choiceByComparing (l := l) (H.size) hW (xs (nI i + 1).toNatClampNeg) ) (cwV 1 hts (gL_law_X5_choiceByComparing.up wsL_law_in) rfl rfl rfl (by decide +kernel) ⟨Nat.le_of_ble_eq_true rfl, Nat.le_of_ble_eq_true rfl⟩) (m_preV (r := (RX5, TX5, 34)) hE hV hS hA hf rfl) rfl rfl hl.1 rfl (lv_room (by exact Nat.le_of_ble_eq_true rfl)) dL_law_1640 (room_c hc hs (by omega) (by omega))) hV hS hA (fun b2 h2 H locs hV hS hp _ => ?_)
  obtain ⟨μ1, hW, k1, k2, hom⟩ := hp
  refine lv_istore (lv' := [(7, .int b2), (6, .int r), (0, .ref b), (1, .ref c0), (2, .ref m0), (3, .ref o1), (4, .ref o2), (5, .int (nI i))]) hx hb dL_law_1643 hl (by decide) rfl (fun ls hl => ?_)
  refine lv_aload_n hx hb dL_law_1645 rfl (lv_at hl 4 rfl) ?_
  obtain ⟨fs, hf⟩ := hW.m0
  refine m_calli (va_runV (As := []) (rest := []) ⟨hx, hb, hml, hown, hts⟩ (w_X5_thrown (l := l) (H.size) hW) (cwV 0 hts (gL_law_X5_thrown.up wsL_law_in) rfl rfl rfl (by decide +kernel) ⟨Nat.le_of_ble_eq_true rfl, Nat.le_of_ble_eq_true rfl⟩) (m_preV (r := (RX5, TX5, 34)) hE hV hS hA hf rfl) rfl rfl hl.1 rfl (lv_room (by exact Nat.le_of_ble_eq_true rfl)) dL_law_1646 (room_c hc hs (by omega) (by omega))) hV hS hA (fun r3 h3 H locs hV hS hp _ => ?_)
  obtain ⟨e3, e4⟩ := hp
  rw [e3] at hV
  clear e3
  subst e4
  refine lv_iload hx hb dL_law_1649 (lv_at hl 1 rfl) ?_
  obtain ⟨hr1, hth, hval⟩ := R.s_choiceByComparing _ _ _ _ _ _ _ _ _ hj hw0 hr hoc hom hW.wf
  refine lv_icmp_eq (tgt := 1656) hx hb dL_law_1651 (by decide) (fun _ => ?_) (fun z => absurd hth z)
  refine lv_iload hx hb dL_law_1656 (lv_at hl 1 rfl) ?_
  have kq := kk _ _ _ _ _ _ hV hS hW hr1 (lv_sub hl [2, 3, 4, 5, 6, 7] rfl)
  refine lv_if_ne (tgt := 1673) hx hb dL_law_1658 (by decide) (fun c9 => ?_) (fun c9 => ?_)
  · exact lv_goto (tgt := 1902) hx hb dL_law_1673 (by decide) (W.widen (by omega) (by omega) kq)
  have r0 : r = 0 := c9
  have hv := hval r0
  obtain ⟨f, hrow, hf0⟩ := hrow r0
  refine lv_aload_n hx hb dL_law_1661 rfl (lv_at hl 5 rfl) ?_
  refine lv_iconst (v := 0) hx hb dL_law_1662 (by decide) ?_
  refine m_lald hx hb hK hV 1 (i := 0) (f := f) (x := v) (by rw [k1]; exact hrow) rfl (show vp_in (nI 0) 1 from vp_in_nI (by decide) (by decide)) (by rw [← hf0]; rfl) dL_law_1663 ?_
  refine lv_iload hx hb dL_law_1664 (lv_at hl 0 rfl) ?_
  refine lv_i2l (v := (b2).toInt64) hx hb dL_law_1666 rfl ?_
  refine m_lcmp_eq (tgt := 1673) hx hb dL_law_1667 dL_law_1668 (by decide) (fun _ => ?_) (fun z => absurd hv z)
  refine lv_goto (tgt := 1902) hx hb dL_law_1673 (by decide) ?_
  exact W.widen (by omega) (by omega) kq
set_option maxRecDepth 100000 in
set_option maxHeartbeats 4000000 in
theorem law_pass {p : Program} {l : Launch} {e : Env} {s : State} {m : MethodId} {below : List Frame} {meth : Method} {c : Code} {b L : Nat} {xs : Nat → Int32} {D : va_G} {cs : mC} {df : Nat} {A : Nat → Prop} (C : LC p l s m c b L xs D cs df A) {Rl : Nat → KS → KS → Prop} (R : SimP Rl) {c0 m0 o1 o2 : Nat} {σ μ : KS} {h : mH} {H : Heap} {locs : List Loc} {cells slots : Nat} {Q : State → Prop} (hV : mV D h A H) (hS : va_S A s.heap H locs) (hW : DSt cs df c0 m0 o1 o2 σ μ h) {j : Nat} (hj : j < 512) (hr : Rl j σ μ) {i : Nat} (hi : i + 5 ≤ L) {ls : Array Slot} (hl : lv_has ls 9 (lawL b c0 m0 o1 o2 i)) (hc : cells + 8 ≤ 603072) (hs : slots + 400 ≤ 7223402) (kk : ∀ (σ1 μ1 : KS) (h1 : mH) (H1 : Heap) (locs1 : List Loc) (ls1 : Array Slot), mV D h1 A H1 → va_S A s.heap H1 locs1 → DSt cs df c0 m0 o1 o2 σ1 μ1 h1 → Rl (j + 1) σ1 μ1 → lv_has ls1 9 (lawL b c0 m0 o1 o2 i) → W p l e room_1 s m #[Value.ref b] below meth c H1 locs1 (cells + 8) (slots + 400) Q (F0 m 1902 ls1 [])) : W p l e room_1 s m #[Value.ref b] below meth c H locs cells slots Q (F0 m 1676 ls []) := by
  obtain ⟨hx, hb, hml, hown, hts, hX, hbl, hbA, hE, hN, hA, hfl, hL⟩ := C
  have hK := hE.1.1
  have hw0 := hW.wf
  have i1 : vp_in (nI i + 1) L := lw_in (k := 1) (by decide) hi hL
  have i2 : vp_in (nI i + 2) L := lw_in (k := 2) (by decide) hi hL
  have i3 : vp_in (nI i + 3) L := lw_in (k := 3) (by decide) hi hL
  have i4 : vp_in (nI i + 4) L := lw_in (k := 4) (by decide) hi hL
  refine lv_aload_n hx hb dL_law_1676 rfl (lv_at hl 1 rfl) ?_
  refine lv_aload_n hx hb dL_law_1677 rfl (lv_at hl 0 rfl) ?_
  refine lv_iload hx hb dL_law_1678 (lv_at hl 5 rfl) ?_
  refine lv_iconst (v := 1) hx hb dL_law_1680 (by decide) ?_
  refine lv_iadd hx hb dL_law_1681 ?_
  refine va_sld hx hb hX hbl hbA hS (i := nI i + 1) i1 dL_law_1682 ?_
  refine lv_aload_n hx hb dL_law_1683 rfl (lv_at hl 3 rfl) ?_
  refine m_calli (vx_runSW (As := [.ref c0, .int (xs (nI i + 1).toNatClampNeg), .ref o1]) (rest := []) ⟨hx, hb, hml, hown, hts⟩ (w_L_pass (l := l) hfl (D := D) (H.size) hW (xs (nI i + 1).toNatClampNeg) ) (vx_cwSW 3 hts (goodIn_l gL_law_L_pass) rfl rfl rfl (by decide +kernel) ⟨Nat.le_of_ble_eq_true rfl, Nat.le_of_ble_eq_true rfl⟩) (l_preS hN hE hV hS hA) rfl rfl hl.1 rfl (lv_room (by first | exact Nat.le_of_ble_eq_true rfl | simp [rf_cat, ct_ref, ct_int, ct_null, ct_long])) dL_law_1684 (room_c hc hs (by omega) (by omega))) hV hS hA (fun r h1 H locs hV hS hp _ => ?_)
  obtain ⟨σ1, v, hW, hrow, hoc⟩ := hp
  refine lv_istore (lv' := [(6, .int r), (0, .ref b), (1, .ref c0), (2, .ref m0), (3, .ref o1), (4, .ref o2), (5, .int (nI i))]) hx hb dL_law_1687 hl (by decide) rfl (fun ls hl => ?_)
  refine lv_aload_n hx hb dL_law_1689 rfl (lv_at hl 3 rfl) ?_
  refine lv_aload_n hx hb dL_law_1690 rfl (lv_at hl 1 rfl) ?_
  refine lv_iload hx hb dL_law_1691 (lv_at hl 6 rfl) ?_
  refine lv_iconst (v := 1) hx hb dL_law_1693 (by decide) ?_
  refine lv_iadd hx hb dL_law_1694 ?_
  refine va_sld hx hb hX hbl hbA hS (i := nI i + 1) i1 dL_law_1695 ?_
  obtain ⟨fs, hf⟩ := hW.m0
  refine m_calli (va_runV (As := [.int (xs (nI i + 1).toNatClampNeg)]) (rest := []) ⟨hx, hb, hml, hown, hts⟩ (w_X5_pass (l := l) (H.size) hW (xs (nI i + 1).toNatClampNeg) (R.hdIM_pass _ _ _ hj hw0 hr)) (cwV 1 hts (gL_law_X5_pass.up wsL_law_in) rfl rfl rfl (by decide +kernel) ⟨Nat.le_of_ble_eq_true rfl, Nat.le_of_ble_eq_true rfl⟩) (m_preV (r := (RX5, TX5, 34)) hE hV hS hA hf rfl) rfl rfl hl.1 rfl (lv_room (by exact Nat.le_of_ble_eq_true rfl)) dL_law_1696 (room_c hc hs (by omega) (by omega))) hV hS hA (fun b2 h2 H locs hV hS hp _ => ?_)
  obtain ⟨μ1, hW, k1, k2, hom⟩ := hp
  refine lv_istore (lv' := [(7, .int b2), (6, .int r), (0, .ref b), (1, .ref c0), (2, .ref m0), (3, .ref o1), (4, .ref o2), (5, .int (nI i))]) hx hb dL_law_1699 hl (by decide) rfl (fun ls hl => ?_)
  refine lv_aload_n hx hb dL_law_1701 rfl (lv_at hl 4 rfl) ?_
  obtain ⟨fs, hf⟩ := hW.m0
  refine m_calli (va_runV (As := []) (rest := []) ⟨hx, hb, hml, hown, hts⟩ (w_X5_thrown (l := l) (H.size) hW) (cwV 0 hts (gL_law_X5_thrown.up wsL_law_in) rfl rfl rfl (by decide +kernel) ⟨Nat.le_of_ble_eq_true rfl, Nat.le_of_ble_eq_true rfl⟩) (m_preV (r := (RX5, TX5, 34)) hE hV hS hA hf rfl) rfl rfl hl.1 rfl (lv_room (by exact Nat.le_of_ble_eq_true rfl)) dL_law_1702 (room_c hc hs (by omega) (by omega))) hV hS hA (fun r3 h3 H locs hV hS hp _ => ?_)
  obtain ⟨e3, e4⟩ := hp
  rw [e3] at hV
  clear e3
  subst e4
  refine lv_iload hx hb dL_law_1705 (lv_at hl 1 rfl) ?_
  obtain ⟨hr1, hth, hval⟩ := R.s_pass _ _ _ _ _ _ _ _ _ hj hw0 hr hoc hom hW.wf
  refine lv_icmp_eq (tgt := 1712) hx hb dL_law_1707 (by decide) (fun _ => ?_) (fun z => absurd hth z)
  refine lv_iload hx hb dL_law_1712 (lv_at hl 1 rfl) ?_
  have kq := kk _ _ _ _ _ _ hV hS hW hr1 (lv_sub hl [2, 3, 4, 5, 6, 7] rfl)
  refine lv_if_ne (tgt := 1729) hx hb dL_law_1714 (by decide) (fun c9 => ?_) (fun c9 => ?_)
  · exact lv_goto (tgt := 1902) hx hb dL_law_1729 (by decide) (W.widen (by omega) (by omega) kq)
  have r0 : r = 0 := c9
  have hv := hval r0
  obtain ⟨f, hrow, hf0⟩ := hrow r0
  refine lv_aload_n hx hb dL_law_1717 rfl (lv_at hl 5 rfl) ?_
  refine lv_iconst (v := 0) hx hb dL_law_1718 (by decide) ?_
  refine m_lald hx hb hK hV 1 (i := 0) (f := f) (x := v) (by rw [k1]; exact hrow) rfl (show vp_in (nI 0) 1 from vp_in_nI (by decide) (by decide)) (by rw [← hf0]; rfl) dL_law_1719 ?_
  refine lv_iload hx hb dL_law_1720 (lv_at hl 0 rfl) ?_
  refine lv_i2l (v := (b2).toInt64) hx hb dL_law_1722 rfl ?_
  refine m_lcmp_eq (tgt := 1729) hx hb dL_law_1723 dL_law_1724 (by decide) (fun _ => ?_) (fun z => absurd hv z)
  refine lv_goto (tgt := 1902) hx hb dL_law_1729 (by decide) ?_
  exact W.widen (by omega) (by omega) kq
set_option maxRecDepth 100000 in
set_option maxHeartbeats 4000000 in
theorem law_now {p : Program} {l : Launch} {e : Env} {s : State} {m : MethodId} {below : List Frame} {meth : Method} {c : Code} {b L : Nat} {xs : Nat → Int32} {D : va_G} {cs : mC} {df : Nat} {A : Nat → Prop} (C : LC p l s m c b L xs D cs df A) {Rl : Nat → KS → KS → Prop} (R : SimP Rl) {c0 m0 o1 o2 : Nat} {σ μ : KS} {h : mH} {H : Heap} {locs : List Loc} {cells slots : Nat} {Q : State → Prop} (hV : mV D h A H) (hS : va_S A s.heap H locs) (hW : DSt cs df c0 m0 o1 o2 σ μ h) {j : Nat} (hj : j < 512) (hr : Rl j σ μ) {i : Nat} (hi : i + 5 ≤ L) {ls : Array Slot} (hl : lv_has ls 9 (lawL b c0 m0 o1 o2 i)) (hc : cells + 8 ≤ 603072) (hs : slots + 400 ≤ 7223402) (kk : ∀ (σ1 μ1 : KS) (h1 : mH) (H1 : Heap) (locs1 : List Loc) (ls1 : Array Slot), mV D h1 A H1 → va_S A s.heap H1 locs1 → DSt cs df c0 m0 o1 o2 σ1 μ1 h1 → Rl (j + 1) σ1 μ1 → lv_has ls1 9 (lawL b c0 m0 o1 o2 i) → W p l e room_1 s m #[Value.ref b] below meth c H1 locs1 (cells + 8) (slots + 400) Q (F0 m 1902 ls1 [])) : W p l e room_1 s m #[Value.ref b] below meth c H locs cells slots Q (F0 m 1732 ls []) := by
  obtain ⟨hx, hb, hml, hown, hts, hX, hbl, hbA, hE, hN, hA, hfl, hL⟩ := C
  have hK := hE.1.1
  have hw0 := hW.wf
  have i1 : vp_in (nI i + 1) L := lw_in (k := 1) (by decide) hi hL
  have i2 : vp_in (nI i + 2) L := lw_in (k := 2) (by decide) hi hL
  have i3 : vp_in (nI i + 3) L := lw_in (k := 3) (by decide) hi hL
  have i4 : vp_in (nI i + 4) L := lw_in (k := 4) (by decide) hi hL
  refine lv_aload_n hx hb dL_law_1732 rfl (lv_at hl 1 rfl) ?_
  obtain ⟨fs, hf⟩ := hW.c0
  refine m_calli (va_runV (As := []) (rest := []) ⟨hx, hb, hml, hown, hts⟩ (w_X4_now (l := l) (H.size) hW ) (cwV 0 hts (gL_law_X4_now.up wsL_law_in) rfl rfl rfl (by decide +kernel) ⟨Nat.le_of_ble_eq_true rfl, Nat.le_of_ble_eq_true rfl⟩) (m_preV (r := (RX4, TX4, 11)) hE hV hS hA hf rfl) rfl rfl hl.1 rfl (lv_room (by exact Nat.le_of_ble_eq_true rfl)) dL_law_1733 (room_c hc hs (by omega) (by omega))) hV hS hA (fun r h1 H locs hV hS hp _ => ?_)
  obtain ⟨e3, e4⟩ := hp
  rw [e3] at hV
  clear e3
  subst e4
  refine lv_aload_n hx hb dL_law_1736 rfl (lv_at hl 2 rfl) ?_
  obtain ⟨fs, hf⟩ := hW.m0
  refine m_calli (va_runV (As := []) (rest := [.int ((kI σ 2 0))]) ⟨hx, hb, hml, hown, hts⟩ (w_X5_now (l := l) (H.size) hW  ) (cwV 0 hts (gL_law_X5_now.up wsL_law_in) rfl rfl rfl (by decide +kernel) ⟨Nat.le_of_ble_eq_true rfl, Nat.le_of_ble_eq_true rfl⟩) (m_preV (r := (RX5, TX5, 34)) hE hV hS hA hf rfl) rfl rfl hl.1 rfl (lv_room (by exact Nat.le_of_ble_eq_true rfl)) dL_law_1737 (room_c hc hs (by omega) (by omega))) hV hS hA (fun b2 h2 H locs hV hS hp _ => ?_)
  obtain ⟨μ1, hW, k1, k2, hom⟩ := hp
  obtain ⟨rfl, rfl⟩ := hom
  refine lv_icmp_eq (tgt := 1902) hx hb dL_law_1740 (by decide) (fun _ => ?_) (fun z => absurd (R.e_now _ _ _ hj hw0 hr) z)
  exact W.widen (by omega) (by omega) (kk _ _ _ _ _ _ hV hS hW (R.s_th _ _ _ hr) (lv_sub hl [0, 1, 2, 3, 4, 5] rfl))
set_option maxRecDepth 100000 in
set_option maxHeartbeats 4000000 in
theorem law_moves {p : Program} {l : Launch} {e : Env} {s : State} {m : MethodId} {below : List Frame} {meth : Method} {c : Code} {b L : Nat} {xs : Nat → Int32} {D : va_G} {cs : mC} {df : Nat} {A : Nat → Prop} (C : LC p l s m c b L xs D cs df A) {Rl : Nat → KS → KS → Prop} (R : SimP Rl) {c0 m0 o1 o2 : Nat} {σ μ : KS} {h : mH} {H : Heap} {locs : List Loc} {cells slots : Nat} {Q : State → Prop} (hV : mV D h A H) (hS : va_S A s.heap H locs) (hW : DSt cs df c0 m0 o1 o2 σ μ h) {j : Nat} (hj : j < 512) (hr : Rl j σ μ) {i : Nat} (hi : i + 5 ≤ L) {ls : Array Slot} (hl : lv_has ls 9 (lawL b c0 m0 o1 o2 i)) (hc : cells + 8 ≤ 603072) (hs : slots + 400 ≤ 7223402) (kk : ∀ (σ1 μ1 : KS) (h1 : mH) (H1 : Heap) (locs1 : List Loc) (ls1 : Array Slot), mV D h1 A H1 → va_S A s.heap H1 locs1 → DSt cs df c0 m0 o1 o2 σ1 μ1 h1 → Rl (j + 1) σ1 μ1 → lv_has ls1 9 (lawL b c0 m0 o1 o2 i) → W p l e room_1 s m #[Value.ref b] below meth c H1 locs1 (cells + 8) (slots + 400) Q (F0 m 1902 ls1 [])) : W p l e room_1 s m #[Value.ref b] below meth c H locs cells slots Q (F0 m 1745 ls []) := by
  obtain ⟨hx, hb, hml, hown, hts, hX, hbl, hbA, hE, hN, hA, hfl, hL⟩ := C
  have hK := hE.1.1
  have hw0 := hW.wf
  have i1 : vp_in (nI i + 1) L := lw_in (k := 1) (by decide) hi hL
  have i2 : vp_in (nI i + 2) L := lw_in (k := 2) (by decide) hi hL
  have i3 : vp_in (nI i + 3) L := lw_in (k := 3) (by decide) hi hL
  have i4 : vp_in (nI i + 4) L := lw_in (k := 4) (by decide) hi hL
  refine lv_aload_n hx hb dL_law_1745 rfl (lv_at hl 1 rfl) ?_
  obtain ⟨fs, hf⟩ := hW.c0
  refine m_calli (va_runV (As := []) (rest := []) ⟨hx, hb, hml, hown, hts⟩ (w_X4_moves (l := l) (H.size) hW ) (cwV 0 hts (gL_law_X4_moves.up wsL_law_in) rfl rfl rfl (by decide +kernel) ⟨Nat.le_of_ble_eq_true rfl, Nat.le_of_ble_eq_true rfl⟩) (m_preV (r := (RX4, TX4, 11)) hE hV hS hA hf rfl) rfl rfl hl.1 rfl (lv_room (by exact Nat.le_of_ble_eq_true rfl)) dL_law_1746 (room_c hc hs (by omega) (by omega))) hV hS hA (fun r h1 H locs hV hS hp _ => ?_)
  obtain ⟨e3, e4⟩ := hp
  rw [e3] at hV
  clear e3
  subst e4
  refine lv_aload_n hx hb dL_law_1749 rfl (lv_at hl 2 rfl) ?_
  obtain ⟨fs, hf⟩ := hW.m0
  refine m_calli (va_runV (As := []) (rest := [.int ((kI σ 3 0))]) ⟨hx, hb, hml, hown, hts⟩ (w_X5_moves (l := l) (H.size) hW  ) (cwV 0 hts (gL_law_X5_moves.up wsL_law_in) rfl rfl rfl (by decide +kernel) ⟨Nat.le_of_ble_eq_true rfl, Nat.le_of_ble_eq_true rfl⟩) (m_preV (r := (RX5, TX5, 34)) hE hV hS hA hf rfl) rfl rfl hl.1 rfl (lv_room (by exact Nat.le_of_ble_eq_true rfl)) dL_law_1750 (room_c hc hs (by omega) (by omega))) hV hS hA (fun b2 h2 H locs hV hS hp _ => ?_)
  obtain ⟨μ1, hW, k1, k2, hom⟩ := hp
  obtain ⟨rfl, rfl⟩ := hom
  refine lv_icmp_eq (tgt := 1902) hx hb dL_law_1753 (by decide) (fun _ => ?_) (fun z => absurd (R.e_moves _ _ _ hj hw0 hr) z)
  exact W.widen (by omega) (by omega) (kk _ _ _ _ _ _ hV hS hW (R.s_th _ _ _ hr) (lv_sub hl [0, 1, 2, 3, 4, 5] rfl))
set_option maxRecDepth 100000 in
set_option maxHeartbeats 4000000 in
theorem law_usedShare {p : Program} {l : Launch} {e : Env} {s : State} {m : MethodId} {below : List Frame} {meth : Method} {c : Code} {b L : Nat} {xs : Nat → Int32} {D : va_G} {cs : mC} {df : Nat} {A : Nat → Prop} (C : LC p l s m c b L xs D cs df A) {Rl : Nat → KS → KS → Prop} (R : SimP Rl) {c0 m0 o1 o2 : Nat} {σ μ : KS} {h : mH} {H : Heap} {locs : List Loc} {cells slots : Nat} {Q : State → Prop} (hV : mV D h A H) (hS : va_S A s.heap H locs) (hW : DSt cs df c0 m0 o1 o2 σ μ h) {j : Nat} (hj : j < 512) (hr : Rl j σ μ) {i : Nat} (hi : i + 5 ≤ L) {ls : Array Slot} (hl : lv_has ls 9 (lawL b c0 m0 o1 o2 i)) (hc : cells + 8 ≤ 603072) (hs : slots + 400 ≤ 7223402) (kk : ∀ (σ1 μ1 : KS) (h1 : mH) (H1 : Heap) (locs1 : List Loc) (ls1 : Array Slot), mV D h1 A H1 → va_S A s.heap H1 locs1 → DSt cs df c0 m0 o1 o2 σ1 μ1 h1 → Rl (j + 1) σ1 μ1 → lv_has ls1 9 (lawL b c0 m0 o1 o2 i) → W p l e room_1 s m #[Value.ref b] below meth c H1 locs1 (cells + 8) (slots + 400) Q (F0 m 1902 ls1 [])) : W p l e room_1 s m #[Value.ref b] below meth c H locs cells slots Q (F0 m 1758 ls []) := by
  obtain ⟨hx, hb, hml, hown, hts, hX, hbl, hbA, hE, hN, hA, hfl, hL⟩ := C
  have hK := hE.1.1
  have hw0 := hW.wf
  have i1 : vp_in (nI i + 1) L := lw_in (k := 1) (by decide) hi hL
  have i2 : vp_in (nI i + 2) L := lw_in (k := 2) (by decide) hi hL
  have i3 : vp_in (nI i + 3) L := lw_in (k := 3) (by decide) hi hL
  have i4 : vp_in (nI i + 4) L := lw_in (k := 4) (by decide) hi hL
  refine lv_aload_n hx hb dL_law_1758 rfl (lv_at hl 1 rfl) ?_
  refine lv_aload hx hb dL_law_1759 (lv_at hl 4 rfl) ?_
  refine m_calli (vx_runSW (As := [.ref c0, .ref o2]) (rest := []) ⟨hx, hb, hml, hown, hts⟩ (w_L_usedShare (l := l) hfl (D := D) (H.size) hW  (R.hnnL_usedShare _ _ _ hj hw0 hr) (R.hnfL_usedShare _ _ _ hj hw0 hr)) (vx_cwSW 2 hts (goodIn_l gL_law_L_usedShare) rfl rfl rfl (by decide +kernel) ⟨Nat.le_of_ble_eq_true rfl, Nat.le_of_ble_eq_true rfl⟩) (l_preS hN hE hV hS hA) rfl rfl hl.1 rfl (lv_room (by first | exact Nat.le_of_ble_eq_true rfl | simp [rf_cat, ct_ref, ct_int, ct_null, ct_long])) dL_law_1761 (room_c hc hs (by omega) (by omega))) hV hS hA (fun r h1 H locs hV hS hp _ => ?_)
  obtain ⟨σ1, v, hW, hrow, hoc⟩ := hp
  refine lv_istore (lv' := [(6, .int r), (0, .ref b), (1, .ref c0), (2, .ref m0), (3, .ref o1), (4, .ref o2), (5, .int (nI i))]) hx hb dL_law_1764 hl (by decide) rfl (fun ls hl => ?_)
  refine lv_aload_n hx hb dL_law_1766 rfl (lv_at hl 3 rfl) ?_
  obtain ⟨fs, hf⟩ := hW.m0
  refine m_callf (va_runV (As := []) (rest := []) ⟨hx, hb, hml, hown, hts⟩ (w_X5_usedShare (l := l) (H.size) hW  (R.hnnM_usedShare _ _ _ hj hw0 hr)) (cwV 0 hts (gL_law_X5_usedShare.up wsL_law_in) rfl rfl rfl (by decide +kernel) ⟨Nat.le_of_ble_eq_true rfl, Nat.le_of_ble_eq_true rfl⟩) (m_preV (r := (RX5, TX5, 34)) hE hV hS hA hf rfl) rfl rfl hl.1 rfl (lv_room (by exact Nat.le_of_ble_eq_true rfl)) dL_law_1767 (room_c hc hs (by omega) (by omega))) hV hS hA (fun b2 h2 H locs hV hS hp _ => ?_)
  obtain ⟨μ1, hW, k1, k2, hom⟩ := hp
  refine lv_fstore (lv' := [(7, .float b2), (6, .int r), (0, .ref b), (1, .ref c0), (2, .ref m0), (3, .ref o1), (4, .ref o2), (5, .int (nI i))]) hx hb dL_law_1770 hl (by decide) rfl (fun ls hl => ?_)
  refine lv_aload_n hx hb dL_law_1772 rfl (lv_at hl 4 rfl) ?_
  obtain ⟨fs, hf⟩ := hW.m0
  refine m_calli (va_runV (As := []) (rest := []) ⟨hx, hb, hml, hown, hts⟩ (w_X5_thrown (l := l) (H.size) hW) (cwV 0 hts (gL_law_X5_thrown.up wsL_law_in) rfl rfl rfl (by decide +kernel) ⟨Nat.le_of_ble_eq_true rfl, Nat.le_of_ble_eq_true rfl⟩) (m_preV (r := (RX5, TX5, 34)) hE hV hS hA hf rfl) rfl rfl hl.1 rfl (lv_room (by exact Nat.le_of_ble_eq_true rfl)) dL_law_1773 (room_c hc hs (by omega) (by omega))) hV hS hA (fun r3 h3 H locs hV hS hp _ => ?_)
  obtain ⟨e3, e4⟩ := hp
  rw [e3] at hV
  clear e3
  subst e4
  refine lv_iload hx hb dL_law_1776 (lv_at hl 1 rfl) ?_
  obtain ⟨hr1, hth, hval⟩ := R.s_usedShare _ _ _ _ _ _ _ _ hj hw0 hr hoc hom hW.wf
  refine lv_icmp_eq (tgt := 1783) hx hb dL_law_1778 (by decide) (fun _ => ?_) (fun z => absurd hth z)
  refine lv_iload hx hb dL_law_1783 (lv_at hl 1 rfl) ?_
  have kq := kk _ _ _ _ _ _ hV hS hW hr1 (lv_sub hl [2, 3, 4, 5, 6, 7] rfl)
  refine lv_if_ne (tgt := 1821) hx hb dL_law_1785 (by decide) (fun c9 => ?_) (fun c9 => ?_)
  · exact lv_goto (tgt := 1902) hx hb dL_law_1821 (by decide) (W.widen (by omega) (by omega) kq)
  have r0 : r = 0 := c9
  have hv := hval r0
  have hn64 : vf_n64 (FP.f2d b2) := n64_us hom (R.nfM_usedShare _ _ _ hj hw0 hr) (hth.trans r0)
  have hn64v : vf_n64 (FP.f2d b2) := hn64
  obtain ⟨f, hrow, hf0⟩ := hrow r0
  refine lv_aload hx hb dL_law_1788 (lv_at hl 6 rfl) ?_
  refine lv_iconst (v := 0) hx hb dL_law_1790 (by decide) ?_
  refine m_dald hx hb hK hV 3 (i := 0) (f := f) (x := v) (by rw [k2]; exact hrow) rfl (show vp_in (nI 0) 1 from vp_in_nI (by decide) (by decide)) (by rw [← hf0]; rfl) dL_law_1791 ?_
  refine lv_fload hx hb dL_law_1792 (lv_at hl 0 rfl) ?_
  refine lv_f2d hx hb dL_law_1794 hn64 ?_
  refine lv_dcmp hx hb dL_law_1795 ?_
  refine lv_if_eq (tgt := 1821) hx hb dL_law_1796 (by decide) (fun _ => ?_) (fun z => absurd (by rw [← hv]; exact R.dc _ (by rw [hv]; exact hn64v)) z)
  refine lv_goto (tgt := 1902) hx hb dL_law_1821 (by decide) ?_
  exact W.widen (by omega) (by omega) kq
set_option maxRecDepth 100000 in
set_option maxHeartbeats 4000000 in
theorem law_meanHeat {p : Program} {l : Launch} {e : Env} {s : State} {m : MethodId} {below : List Frame} {meth : Method} {c : Code} {b L : Nat} {xs : Nat → Int32} {D : va_G} {cs : mC} {df : Nat} {A : Nat → Prop} (C : LC p l s m c b L xs D cs df A) {Rl : Nat → KS → KS → Prop} (R : SimP Rl) {c0 m0 o1 o2 : Nat} {σ μ : KS} {h : mH} {H : Heap} {locs : List Loc} {cells slots : Nat} {Q : State → Prop} (hV : mV D h A H) (hS : va_S A s.heap H locs) (hW : DSt cs df c0 m0 o1 o2 σ μ h) {j : Nat} (hj : j < 512) (hr : Rl j σ μ) {i : Nat} (hi : i + 5 ≤ L) {ls : Array Slot} (hl : lv_has ls 9 (lawL b c0 m0 o1 o2 i)) (hc : cells + 8 ≤ 603072) (hs : slots + 400 ≤ 7223402) (kk : ∀ (σ1 μ1 : KS) (h1 : mH) (H1 : Heap) (locs1 : List Loc) (ls1 : Array Slot), mV D h1 A H1 → va_S A s.heap H1 locs1 → DSt cs df c0 m0 o1 o2 σ1 μ1 h1 → Rl (j + 1) σ1 μ1 → lv_has ls1 9 (lawL b c0 m0 o1 o2 i) → W p l e room_1 s m #[Value.ref b] below meth c H1 locs1 (cells + 8) (slots + 400) Q (F0 m 1902 ls1 [])) : W p l e room_1 s m #[Value.ref b] below meth c H locs cells slots Q (F0 m 1824 ls []) := by
  obtain ⟨hx, hb, hml, hown, hts, hX, hbl, hbA, hE, hN, hA, hfl, hL⟩ := C
  have hK := hE.1.1
  have hw0 := hW.wf
  have i1 : vp_in (nI i + 1) L := lw_in (k := 1) (by decide) hi hL
  have i2 : vp_in (nI i + 2) L := lw_in (k := 2) (by decide) hi hL
  have i3 : vp_in (nI i + 3) L := lw_in (k := 3) (by decide) hi hL
  have i4 : vp_in (nI i + 4) L := lw_in (k := 4) (by decide) hi hL
  refine lv_aload_n hx hb dL_law_1824 rfl (lv_at hl 1 rfl) ?_
  refine lv_aload hx hb dL_law_1825 (lv_at hl 4 rfl) ?_
  refine m_calli (vx_runSW (As := [.ref c0, .ref o2]) (rest := []) ⟨hx, hb, hml, hown, hts⟩ (w_L_meanHeat (l := l) hfl (D := D) (H.size) hW  (R.hnnL_meanHeat _ _ _ hj hw0 hr)) (vx_cwSW 2 hts (goodIn_l gL_law_L_meanHeat) rfl rfl rfl (by decide +kernel) ⟨Nat.le_of_ble_eq_true rfl, Nat.le_of_ble_eq_true rfl⟩) (l_preS hN hE hV hS hA) rfl rfl hl.1 rfl (lv_room (by first | exact Nat.le_of_ble_eq_true rfl | simp [rf_cat, ct_ref, ct_int, ct_null, ct_long])) dL_law_1827 (room_c hc hs (by omega) (by omega))) hV hS hA (fun r h1 H locs hV hS hp _ => ?_)
  obtain ⟨σ1, v, hW, hrow, hoc⟩ := hp
  refine lv_istore (lv' := [(6, .int r), (0, .ref b), (1, .ref c0), (2, .ref m0), (3, .ref o1), (4, .ref o2), (5, .int (nI i))]) hx hb dL_law_1830 hl (by decide) rfl (fun ls hl => ?_)
  refine lv_aload_n hx hb dL_law_1832 rfl (lv_at hl 3 rfl) ?_
  obtain ⟨fs, hf⟩ := hW.m0
  refine m_calld (va_runV (As := []) (rest := []) ⟨hx, hb, hml, hown, hts⟩ (w_X5_meanHeat (l := l) (H.size) hW  (R.hnnM_meanHeat _ _ _ hj hw0 hr)) (cwV 0 hts (gL_law_X5_meanHeat.up wsL_law_in) rfl rfl rfl (by decide +kernel) ⟨Nat.le_of_ble_eq_true rfl, Nat.le_of_ble_eq_true rfl⟩) (m_preV (r := (RX5, TX5, 34)) hE hV hS hA hf rfl) rfl rfl hl.1 rfl (lv_room (by exact Nat.le_of_ble_eq_true rfl)) dL_law_1833 (room_c hc hs (by omega) (by omega))) hV hS hA (fun b2 h2 H locs hV hS hp _ => ?_)
  obtain ⟨μ1, hW, k1, k2, hom⟩ := hp
  refine lv_dstore (lv' := [(7, .double b2), (6, .int r), (0, .ref b), (1, .ref c0), (2, .ref m0), (3, .ref o1), (4, .ref o2), (5, .int (nI i))]) hx hb dL_law_1836 hl (by decide) rfl (fun ls hl => ?_)
  refine lv_aload_n hx hb dL_law_1838 rfl (lv_at hl 4 rfl) ?_
  obtain ⟨fs, hf⟩ := hW.m0
  refine m_calli (va_runV (As := []) (rest := []) ⟨hx, hb, hml, hown, hts⟩ (w_X5_thrown (l := l) (H.size) hW) (cwV 0 hts (gL_law_X5_thrown.up wsL_law_in) rfl rfl rfl (by decide +kernel) ⟨Nat.le_of_ble_eq_true rfl, Nat.le_of_ble_eq_true rfl⟩) (m_preV (r := (RX5, TX5, 34)) hE hV hS hA hf rfl) rfl rfl hl.1 rfl (lv_room (by exact Nat.le_of_ble_eq_true rfl)) dL_law_1839 (room_c hc hs (by omega) (by omega))) hV hS hA (fun r3 h3 H locs hV hS hp _ => ?_)
  obtain ⟨e3, e4⟩ := hp
  rw [e3] at hV
  clear e3
  subst e4
  refine lv_iload hx hb dL_law_1842 (lv_at hl 1 rfl) ?_
  obtain ⟨hr1, hth, hval⟩ := R.s_meanHeat _ _ _ _ _ _ _ _ hj hw0 hr hoc hom hW.wf
  refine lv_icmp_eq (tgt := 1849) hx hb dL_law_1844 (by decide) (fun _ => ?_) (fun z => absurd hth z)
  refine lv_iload hx hb dL_law_1849 (lv_at hl 1 rfl) ?_
  have kq := kk _ _ _ _ _ _ hV hS hW hr1 (lv_sub hl [2, 3, 4, 5, 6, 7] rfl)
  refine lv_if_ne (tgt := 1886) hx hb dL_law_1851 (by decide) (fun c9 => ?_) (fun c9 => ?_)
  · exact lv_goto (tgt := 1902) hx hb dL_law_1886 (by decide) (W.widen (by omega) (by omega) kq)
  have r0 : r = 0 := c9
  have hv := hval r0
  have hn64v : vf_n64 b2 := n64_mh hom (R.hnnM_meanHeat _ _ _ hj hw0 hr) (hth.trans r0)
  obtain ⟨f, hrow, hf0⟩ := hrow r0
  refine lv_aload hx hb dL_law_1854 (lv_at hl 6 rfl) ?_
  refine lv_iconst (v := 0) hx hb dL_law_1856 (by decide) ?_
  refine m_dald hx hb hK hV 3 (i := 0) (f := f) (x := v) (by rw [k2]; exact hrow) rfl (show vp_in (nI 0) 1 from vp_in_nI (by decide) (by decide)) (by rw [← hf0]; rfl) dL_law_1857 ?_
  refine lv_dload hx hb dL_law_1858 (lv_at hl 0 rfl) ?_
  refine lv_dcmp hx hb dL_law_1860 ?_
  refine lv_if_eq (tgt := 1886) hx hb dL_law_1861 (by decide) (fun _ => ?_) (fun z => absurd (by rw [← hv]; exact R.dc _ (by rw [hv]; exact hn64v)) z)
  refine lv_goto (tgt := 1902) hx hb dL_law_1886 (by decide) ?_
  exact W.widen (by omega) (by omega) kq
set_option maxRecDepth 100000 in
set_option maxHeartbeats 4000000 in
theorem law_isSound {p : Program} {l : Launch} {e : Env} {s : State} {m : MethodId} {below : List Frame} {meth : Method} {c : Code} {b L : Nat} {xs : Nat → Int32} {D : va_G} {cs : mC} {df : Nat} {A : Nat → Prop} (C : LC p l s m c b L xs D cs df A) {Rl : Nat → KS → KS → Prop} (R : SimP Rl) {c0 m0 o1 o2 : Nat} {σ μ : KS} {h : mH} {H : Heap} {locs : List Loc} {cells slots : Nat} {Q : State → Prop} (hV : mV D h A H) (hS : va_S A s.heap H locs) (hW : DSt cs df c0 m0 o1 o2 σ μ h) {j : Nat} (hj : j < 512) (hr : Rl j σ μ) {i : Nat} (hi : i + 5 ≤ L) {ls : Array Slot} (hl : lv_has ls 9 (lawL b c0 m0 o1 o2 i)) (hc : cells + 8 ≤ 603072) (hs : slots + 400 ≤ 7223402) (kk : ∀ (σ1 μ1 : KS) (h1 : mH) (H1 : Heap) (locs1 : List Loc) (ls1 : Array Slot), mV D h1 A H1 → va_S A s.heap H1 locs1 → DSt cs df c0 m0 o1 o2 σ1 μ1 h1 → Rl (j + 1) σ1 μ1 → lv_has ls1 9 (lawL b c0 m0 o1 o2 i) → W p l e room_1 s m #[Value.ref b] below meth c H1 locs1 (cells + 8) (slots + 400) Q (F0 m 1902 ls1 [])) : W p l e room_1 s m #[Value.ref b] below meth c H locs cells slots Q (F0 m 1889 ls []) := by
  obtain ⟨hx, hb, hml, hown, hts, hX, hbl, hbA, hE, hN, hA, hfl, hL⟩ := C
  have hK := hE.1.1
  have hw0 := hW.wf
  have i1 : vp_in (nI i + 1) L := lw_in (k := 1) (by decide) hi hL
  have i2 : vp_in (nI i + 2) L := lw_in (k := 2) (by decide) hi hL
  have i3 : vp_in (nI i + 3) L := lw_in (k := 3) (by decide) hi hL
  have i4 : vp_in (nI i + 4) L := lw_in (k := 4) (by decide) hi hL
  refine lv_aload_n hx hb dL_law_1889 rfl (lv_at hl 1 rfl) ?_
  obtain ⟨fs, hf⟩ := hW.c0
  refine m_calli (va_runV (As := []) (rest := []) ⟨hx, hb, hml, hown, hts⟩ (w_X4_isSound (l := l) (H.size) hW (R.hAl_isSound _ _ _ hj hw0 hr) (R.hDs_isSound _ _ _ hj hw0 hr) (R.hNw_isSound _ _ _ hj hw0 hr)) (cwV 0 hts (gL_law_X4_isSound.up wsL_law_in) rfl rfl rfl (by decide +kernel) ⟨Nat.le_of_ble_eq_true rfl, Nat.le_of_ble_eq_true rfl⟩) (m_preV (r := (RX4, TX4, 11)) hE hV hS hA hf rfl) rfl rfl hl.1 rfl (lv_room (by exact Nat.le_of_ble_eq_true rfl)) dL_law_1890 (room_c hc hs (by omega) (by omega))) hV hS hA (fun r h1 H locs hV hS hp _ => ?_)
  obtain ⟨hW, rfl⟩ := hp
  replace hr := R.s_isSound _ _ _ hj hw0 hr hW.wf
  refine lv_aload_n hx hb dL_law_1893 rfl (lv_at hl 2 rfl) ?_
  obtain ⟨fs, hf⟩ := hW.m0
  refine m_calli (va_runV (As := []) (rest := [.int (bI true)]) ⟨hx, hb, hml, hown, hts⟩ (w_X5_isSound (l := l) (H.size) hW  ) (cwV 0 hts (gL_law_X5_isSound.up wsL_law_in) rfl rfl rfl (by decide +kernel) ⟨Nat.le_of_ble_eq_true rfl, Nat.le_of_ble_eq_true rfl⟩) (m_preV (r := (RX5, TX5, 34)) hE hV hS hA hf rfl) rfl rfl hl.1 rfl (lv_room (by exact Nat.le_of_ble_eq_true rfl)) dL_law_1894 (room_c hc hs (by omega) (by omega))) hV hS hA (fun b2 h2 H locs hV hS hp _ => ?_)
  obtain ⟨μ1, hW, k1, k2, hom⟩ := hp
  obtain ⟨rfl, rfl⟩ := hom
  refine lv_icmp_eq (tgt := 1902) hx hb dL_law_1897 (by decide) (fun _ => ?_) (fun z => absurd rfl z)
  exact W.widen (by omega) (by omega) (kk _ _ _ _ _ _ hV hS hW (R.s_th _ _ _ hr) (lv_sub hl [0, 1, 2, 3, 4, 5] rfl))
