set_option maxRecDepth 100000 in
set_option maxHeartbeats 4000000 in
theorem law_timeOf {p : Program} {l : Launch} {e : Env} {s : State} {m : MethodId} {below : List Frame} {meth : Method} {c : Code} {b L : Nat} {xs : Nat → Int32} {D : va_G} {cs : mC} {df : Nat} {A : Nat → Prop} (C : LC p l s m c b L xs D cs df A) {Rl : Nat → KS → KS → Prop} (R : SimP Rl) {c0 m0 o1 o2 : Nat} {σ μ : KS} {h : mH} {H : Heap} {locs : List Loc} {cells slots : Nat} {Q : State → Prop} (hV : mV D h A H) (hS : va_S A s.heap H locs) (hW : DSt cs df c0 m0 o1 o2 σ μ h) {j : Nat} (hj : j < 512) (hr : Rl j σ μ) {i : Nat} (hi : i + 5 ≤ L) {ls : Array Slot} (hl : lv_has ls 9 (lawL b c0 m0 o1 o2 i)) (hc : cells + 8 ≤ 603072) (hs : slots + 400 ≤ 7223402) (kk : ∀ (σ1 μ1 : KS) (h1 : mH) (H1 : Heap) (locs1 : List Loc) (ls1 : Array Slot), mV D h1 A H1 → va_S A s.heap H1 locs1 → DSt cs df c0 m0 o1 o2 σ1 μ1 h1 → Rl (j + 1) σ1 μ1 → lv_has ls1 9 (lawL b c0 m0 o1 o2 i) → W p l e room_1 s m #[Value.ref b] below meth c H1 locs1 (cells + 8) (slots + 400) Q (F0 m 1902 ls1 [])) : W p l e room_1 s m #[Value.ref b] below meth c H locs cells slots Q (F0 m 880 ls []) := by
  obtain ⟨hx, hb, hml, hown, hts, hX, hbl, hbA, hE, hN, hA, hfl, hL⟩ := C
  have hK := hE.1.1
  have hw0 := hW.wf
  have i1 : vp_in (nI i + 1) L := lw_in (k := 1) (by decide) hi hL
  have i2 : vp_in (nI i + 2) L := lw_in (k := 2) (by decide) hi hL
  have i3 : vp_in (nI i + 3) L := lw_in (k := 3) (by decide) hi hL
  have i4 : vp_in (nI i + 4) L := lw_in (k := 4) (by decide) hi hL
  refine lv_aload_n hx hb dL_law_880 rfl (lv_at hl 1 rfl) ?_
  refine lv_aload_n hx hb dL_law_881 rfl (lv_at hl 0 rfl) ?_
  refine lv_iload hx hb dL_law_882 (lv_at hl 5 rfl) ?_
  refine lv_iconst (v := 1) hx hb dL_law_884 (by decide) ?_
  refine lv_iadd hx hb dL_law_885 ?_
  refine va_sld hx hb hX hbl hbA hS (i := nI i + 1) i1 dL_law_886 ?_
  refine lv_aload_n hx hb dL_law_887 rfl (lv_at hl 3 rfl) ?_
  refine m_calli (vx_runSW (As := [.ref c0, .int (xs (nI i + 1).toNatClampNeg), .ref o1]) (rest := []) ⟨hx, hb, hml, hown, hts⟩ (w_L_timeOf (l := l) hfl (D := D) (H.size) hW (xs (nI i + 1).toNatClampNeg) ) (vx_cwSW 3 hts (goodIn_l gL_law_L_timeOf) rfl rfl rfl (by decide +kernel) ⟨Nat.le_of_ble_eq_true rfl, Nat.le_of_ble_eq_true rfl⟩) (l_preS hN hE hV hS hA) rfl rfl hl.1 rfl (lv_room (by first | exact Nat.le_of_ble_eq_true rfl | simp [rf_cat, ct_ref, ct_int, ct_null, ct_long])) dL_law_888 (room_c hc hs (by omega) (by omega))) hV hS hA (fun r h1 H locs hV hS hp _ => ?_)
  obtain ⟨σ1, v, hW, hrow, hoc⟩ := hp
  refine lv_istore (lv' := [(6, .int r), (0, .ref b), (1, .ref c0), (2, .ref m0), (3, .ref o1), (4, .ref o2), (5, .int (nI i))]) hx hb dL_law_891 hl (by decide) rfl (fun ls hl => ?_)
  refine lv_aload_n hx hb dL_law_893 rfl (lv_at hl 3 rfl) ?_
  refine lv_aload_n hx hb dL_law_894 rfl (lv_at hl 1 rfl) ?_
  refine lv_iload hx hb dL_law_895 (lv_at hl 6 rfl) ?_
  refine lv_iconst (v := 1) hx hb dL_law_897 (by decide) ?_
  refine lv_iadd hx hb dL_law_898 ?_
  refine va_sld hx hb hX hbl hbA hS (i := nI i + 1) i1 dL_law_899 ?_
  obtain ⟨fs, hf⟩ := hW.m0
  refine m_calll (va_runV (As := [.int (xs (nI i + 1).toNatClampNeg)]) (rest := []) ⟨hx, hb, hml, hown, hts⟩ (w_X5_timeOf (l := l) (H.size) hW (xs (nI i + 1).toNatClampNeg) ) (cwV 1 hts (gL_law_X5_timeOf.up wsL_law_in) rfl rfl rfl (by decide +kernel) ⟨Nat.le_of_ble_eq_true rfl, Nat.le_of_ble_eq_true rfl⟩) (m_preV (r := (RX5, TX5, 34)) hE hV hS hA hf rfl) rfl rfl hl.1 rfl (lv_room (by exact Nat.le_of_ble_eq_true rfl)) dL_law_900 (room_c hc hs (by omega) (by omega))) hV hS hA (fun b2 h2 H locs hV hS hp _ => ?_)
  obtain ⟨μ1, hW, k1, k2, hom⟩ := hp
  refine lv_lstore (lv' := [(7, .long b2), (6, .int r), (0, .ref b), (1, .ref c0), (2, .ref m0), (3, .ref o1), (4, .ref o2), (5, .int (nI i))]) hx hb dL_law_903 hl (by decide) rfl (fun ls hl => ?_)
  refine lv_aload_n hx hb dL_law_905 rfl (lv_at hl 4 rfl) ?_
  obtain ⟨fs, hf⟩ := hW.m0
  refine m_calli (va_runV (As := []) (rest := []) ⟨hx, hb, hml, hown, hts⟩ (w_X5_thrown (l := l) (H.size) hW) (cwV 0 hts (gL_law_X5_thrown.up wsL_law_in) rfl rfl rfl (by decide +kernel) ⟨Nat.le_of_ble_eq_true rfl, Nat.le_of_ble_eq_true rfl⟩) (m_preV (r := (RX5, TX5, 34)) hE hV hS hA hf rfl) rfl rfl hl.1 rfl (lv_room (by exact Nat.le_of_ble_eq_true rfl)) dL_law_906 (room_c hc hs (by omega) (by omega))) hV hS hA (fun r3 h3 H locs hV hS hp _ => ?_)
  obtain ⟨e3, e4⟩ := hp
  rw [e3] at hV
  clear e3
  subst e4
  refine lv_iload hx hb dL_law_909 (lv_at hl 1 rfl) ?_
  obtain ⟨hr1, hth, hval⟩ := R.s_timeOf _ _ _ _ _ _ _ _ _ hj hw0 hr hoc hom hW.wf
  refine lv_icmp_eq (tgt := 916) hx hb dL_law_911 (by decide) (fun _ => ?_) (fun z => absurd hth z)
  refine lv_iload hx hb dL_law_916 (lv_at hl 1 rfl) ?_
  have kq := kk _ _ _ _ _ _ hV hS hW hr1 (lv_sub hl [2, 3, 4, 5, 6, 7] rfl)
  refine lv_if_ne (tgt := 932) hx hb dL_law_918 (by decide) (fun c9 => ?_) (fun c9 => ?_)
  · exact lv_goto (tgt := 1902) hx hb dL_law_932 (by decide) (W.widen (by omega) (by omega) kq)
  have r0 : r = 0 := c9
  have hv := hval r0
  obtain ⟨f, hrow, hf0⟩ := hrow r0
  refine lv_aload_n hx hb dL_law_921 rfl (lv_at hl 5 rfl) ?_
  refine lv_iconst (v := 0) hx hb dL_law_922 (by decide) ?_
  refine m_lald hx hb hK hV 1 (i := 0) (f := f) (x := v) (by rw [k1]; exact hrow) rfl (show vp_in (nI 0) 1 from vp_in_nI (by decide) (by decide)) (by rw [← hf0]; rfl) dL_law_923 ?_
  refine lv_lload hx hb dL_law_924 (lv_at hl 0 rfl) ?_
  refine m_lcmp_eq (tgt := 932) hx hb dL_law_926 dL_law_927 (by decide) (fun _ => ?_) (fun z => absurd hv z)
  refine lv_goto (tgt := 1902) hx hb dL_law_932 (by decide) ?_
  exact W.widen (by omega) (by omega) kq
set_option maxRecDepth 100000 in
set_option maxHeartbeats 4000000 in
theorem law_timeOfGroup {p : Program} {l : Launch} {e : Env} {s : State} {m : MethodId} {below : List Frame} {meth : Method} {c : Code} {b L : Nat} {xs : Nat → Int32} {D : va_G} {cs : mC} {df : Nat} {A : Nat → Prop} (C : LC p l s m c b L xs D cs df A) {Rl : Nat → KS → KS → Prop} (R : SimP Rl) {c0 m0 o1 o2 : Nat} {σ μ : KS} {h : mH} {H : Heap} {locs : List Loc} {cells slots : Nat} {Q : State → Prop} (hV : mV D h A H) (hS : va_S A s.heap H locs) (hW : DSt cs df c0 m0 o1 o2 σ μ h) {j : Nat} (hj : j < 512) (hr : Rl j σ μ) {i : Nat} (hi : i + 5 ≤ L) {ls : Array Slot} (hl : lv_has ls 9 (lawL b c0 m0 o1 o2 i)) (hc : cells + 8 ≤ 603072) (hs : slots + 400 ≤ 7223402) (kk : ∀ (σ1 μ1 : KS) (h1 : mH) (H1 : Heap) (locs1 : List Loc) (ls1 : Array Slot), mV D h1 A H1 → va_S A s.heap H1 locs1 → DSt cs df c0 m0 o1 o2 σ1 μ1 h1 → Rl (j + 1) σ1 μ1 → lv_has ls1 9 (lawL b c0 m0 o1 o2 i) → W p l e room_1 s m #[Value.ref b] below meth c H1 locs1 (cells + 8) (slots + 400) Q (F0 m 1902 ls1 [])) : W p l e room_1 s m #[Value.ref b] below meth c H locs cells slots Q (F0 m 935 ls []) := by
  obtain ⟨hx, hb, hml, hown, hts, hX, hbl, hbA, hE, hN, hA, hfl, hL⟩ := C
  have hK := hE.1.1
  have hw0 := hW.wf
  have i1 : vp_in (nI i + 1) L := lw_in (k := 1) (by decide) hi hL
  have i2 : vp_in (nI i + 2) L := lw_in (k := 2) (by decide) hi hL
  have i3 : vp_in (nI i + 3) L := lw_in (k := 3) (by decide) hi hL
  have i4 : vp_in (nI i + 4) L := lw_in (k := 4) (by decide) hi hL
  refine lv_aload_n hx hb dL_law_935 rfl (lv_at hl 1 rfl) ?_
  refine lv_aload_n hx hb dL_law_936 rfl (lv_at hl 0 rfl) ?_
  refine lv_iload hx hb dL_law_937 (lv_at hl 5 rfl) ?_
  refine lv_iconst (v := 1) hx hb dL_law_939 (by decide) ?_
  refine lv_iadd hx hb dL_law_940 ?_
  refine va_sld hx hb hX hbl hbA hS (i := nI i + 1) i1 dL_law_941 ?_
  refine lv_aload_n hx hb dL_law_942 rfl (lv_at hl 3 rfl) ?_
  refine m_calli (vx_runSW (As := [.ref c0, .int (xs (nI i + 1).toNatClampNeg), .ref o1]) (rest := []) ⟨hx, hb, hml, hown, hts⟩ (w_L_timeOfGroup (l := l) hfl (D := D) (H.size) hW (xs (nI i + 1).toNatClampNeg) ) (vx_cwSW 3 hts (goodIn_l gL_law_L_timeOfGroup) rfl rfl rfl (by decide +kernel) ⟨Nat.le_of_ble_eq_true rfl, Nat.le_of_ble_eq_true rfl⟩) (l_preS hN hE hV hS hA) rfl rfl hl.1 rfl (lv_room (by first | exact Nat.le_of_ble_eq_true rfl | simp [rf_cat, ct_ref, ct_int, ct_null, ct_long])) dL_law_943 (room_c hc hs (by omega) (by omega))) hV hS hA (fun r h1 H locs hV hS hp _ => ?_)
  obtain ⟨σ1, v, hW, hrow, hoc⟩ := hp
  refine lv_istore (lv' := [(6, .int r), (0, .ref b), (1, .ref c0), (2, .ref m0), (3, .ref o1), (4, .ref o2), (5, .int (nI i))]) hx hb dL_law_946 hl (by decide) rfl (fun ls hl => ?_)
  refine lv_aload_n hx hb dL_law_948 rfl (lv_at hl 3 rfl) ?_
  refine lv_aload_n hx hb dL_law_949 rfl (lv_at hl 1 rfl) ?_
  refine lv_iload hx hb dL_law_950 (lv_at hl 6 rfl) ?_
  refine lv_iconst (v := 1) hx hb dL_law_952 (by decide) ?_
  refine lv_iadd hx hb dL_law_953 ?_
  refine va_sld hx hb hX hbl hbA hS (i := nI i + 1) i1 dL_law_954 ?_
  obtain ⟨fs, hf⟩ := hW.m0
  refine m_calll (va_runV (As := [.int (xs (nI i + 1).toNatClampNeg)]) (rest := []) ⟨hx, hb, hml, hown, hts⟩ (w_X5_timeOfGroup (l := l) (H.size) hW (xs (nI i + 1).toNatClampNeg) ) (cwV 1 hts (gL_law_X5_timeOfGroup.up wsL_law_in) rfl rfl rfl (by decide +kernel) ⟨Nat.le_of_ble_eq_true rfl, Nat.le_of_ble_eq_true rfl⟩) (m_preV (r := (RX5, TX5, 34)) hE hV hS hA hf rfl) rfl rfl hl.1 rfl (lv_room (by exact Nat.le_of_ble_eq_true rfl)) dL_law_955 (room_c hc hs (by omega) (by omega))) hV hS hA (fun b2 h2 H locs hV hS hp _ => ?_)
  obtain ⟨μ1, hW, k1, k2, hom⟩ := hp
  refine lv_lstore (lv' := [(7, .long b2), (6, .int r), (0, .ref b), (1, .ref c0), (2, .ref m0), (3, .ref o1), (4, .ref o2), (5, .int (nI i))]) hx hb dL_law_958 hl (by decide) rfl (fun ls hl => ?_)
  refine lv_aload_n hx hb dL_law_960 rfl (lv_at hl 4 rfl) ?_
  obtain ⟨fs, hf⟩ := hW.m0
  refine m_calli (va_runV (As := []) (rest := []) ⟨hx, hb, hml, hown, hts⟩ (w_X5_thrown (l := l) (H.size) hW) (cwV 0 hts (gL_law_X5_thrown.up wsL_law_in) rfl rfl rfl (by decide +kernel) ⟨Nat.le_of_ble_eq_true rfl, Nat.le_of_ble_eq_true rfl⟩) (m_preV (r := (RX5, TX5, 34)) hE hV hS hA hf rfl) rfl rfl hl.1 rfl (lv_room (by exact Nat.le_of_ble_eq_true rfl)) dL_law_961 (room_c hc hs (by omega) (by omega))) hV hS hA (fun r3 h3 H locs hV hS hp _ => ?_)
  obtain ⟨e3, e4⟩ := hp
  rw [e3] at hV
  clear e3
  subst e4
  refine lv_iload hx hb dL_law_964 (lv_at hl 1 rfl) ?_
  obtain ⟨hr1, hth, hval⟩ := R.s_timeOfGroup _ _ _ _ _ _ _ _ _ hj hw0 hr hoc hom hW.wf
  refine lv_icmp_eq (tgt := 971) hx hb dL_law_966 (by decide) (fun _ => ?_) (fun z => absurd hth z)
  refine lv_iload hx hb dL_law_971 (lv_at hl 1 rfl) ?_
  have kq := kk _ _ _ _ _ _ hV hS hW hr1 (lv_sub hl [2, 3, 4, 5, 6, 7] rfl)
  refine lv_if_ne (tgt := 987) hx hb dL_law_973 (by decide) (fun c9 => ?_) (fun c9 => ?_)
  · exact lv_goto (tgt := 1902) hx hb dL_law_987 (by decide) (W.widen (by omega) (by omega) kq)
  have r0 : r = 0 := c9
  have hv := hval r0
  obtain ⟨f, hrow, hf0⟩ := hrow r0
  refine lv_aload_n hx hb dL_law_976 rfl (lv_at hl 5 rfl) ?_
  refine lv_iconst (v := 0) hx hb dL_law_977 (by decide) ?_
  refine m_lald hx hb hK hV 1 (i := 0) (f := f) (x := v) (by rw [k1]; exact hrow) rfl (show vp_in (nI 0) 1 from vp_in_nI (by decide) (by decide)) (by rw [← hf0]; rfl) dL_law_978 ?_
  refine lv_lload hx hb dL_law_979 (lv_at hl 0 rfl) ?_
  refine m_lcmp_eq (tgt := 987) hx hb dL_law_981 dL_law_982 (by decide) (fun _ => ?_) (fun z => absurd hv z)
  refine lv_goto (tgt := 1902) hx hb dL_law_987 (by decide) ?_
  exact W.widen (by omega) (by omega) kq
set_option maxRecDepth 100000 in
set_option maxHeartbeats 4000000 in
theorem law_doneBy {p : Program} {l : Launch} {e : Env} {s : State} {m : MethodId} {below : List Frame} {meth : Method} {c : Code} {b L : Nat} {xs : Nat → Int32} {D : va_G} {cs : mC} {df : Nat} {A : Nat → Prop} (C : LC p l s m c b L xs D cs df A) {Rl : Nat → KS → KS → Prop} (R : SimP Rl) {c0 m0 o1 o2 : Nat} {σ μ : KS} {h : mH} {H : Heap} {locs : List Loc} {cells slots : Nat} {Q : State → Prop} (hV : mV D h A H) (hS : va_S A s.heap H locs) (hW : DSt cs df c0 m0 o1 o2 σ μ h) {j : Nat} (hj : j < 512) (hr : Rl j σ μ) {i : Nat} (hi : i + 5 ≤ L) {ls : Array Slot} (hl : lv_has ls 9 (lawL b c0 m0 o1 o2 i)) (hc : cells + 8 ≤ 603072) (hs : slots + 400 ≤ 7223402) (kk : ∀ (σ1 μ1 : KS) (h1 : mH) (H1 : Heap) (locs1 : List Loc) (ls1 : Array Slot), mV D h1 A H1 → va_S A s.heap H1 locs1 → DSt cs df c0 m0 o1 o2 σ1 μ1 h1 → Rl (j + 1) σ1 μ1 → lv_has ls1 9 (lawL b c0 m0 o1 o2 i) → W p l e room_1 s m #[Value.ref b] below meth c H1 locs1 (cells + 8) (slots + 400) Q (F0 m 1902 ls1 [])) : W p l e room_1 s m #[Value.ref b] below meth c H locs cells slots Q (F0 m 990 ls []) := by
  obtain ⟨hx, hb, hml, hown, hts, hX, hbl, hbA, hE, hN, hA, hfl, hL⟩ := C
  have hK := hE.1.1
  have hw0 := hW.wf
  have i1 : vp_in (nI i + 1) L := lw_in (k := 1) (by decide) hi hL
  have i2 : vp_in (nI i + 2) L := lw_in (k := 2) (by decide) hi hL
  have i3 : vp_in (nI i + 3) L := lw_in (k := 3) (by decide) hi hL
  have i4 : vp_in (nI i + 4) L := lw_in (k := 4) (by decide) hi hL
  refine lv_aload_n hx hb dL_law_990 rfl (lv_at hl 1 rfl) ?_
  refine lv_aload_n hx hb dL_law_991 rfl (lv_at hl 0 rfl) ?_
  refine lv_iload hx hb dL_law_992 (lv_at hl 5 rfl) ?_
  refine lv_iconst (v := 1) hx hb dL_law_994 (by decide) ?_
  refine lv_iadd hx hb dL_law_995 ?_
  refine va_sld hx hb hX hbl hbA hS (i := nI i + 1) i1 dL_law_996 ?_
  refine lv_aload_n hx hb dL_law_997 rfl (lv_at hl 3 rfl) ?_
  refine m_calli (vx_runSW (As := [.ref c0, .int (xs (nI i + 1).toNatClampNeg), .ref o1]) (rest := []) ⟨hx, hb, hml, hown, hts⟩ (w_L_doneBy (l := l) hfl (D := D) (H.size) hW (xs (nI i + 1).toNatClampNeg) ) (vx_cwSW 3 hts (goodIn_l gL_law_L_doneBy) rfl rfl rfl (by decide +kernel) ⟨Nat.le_of_ble_eq_true rfl, Nat.le_of_ble_eq_true rfl⟩) (l_preS hN hE hV hS hA) rfl rfl hl.1 rfl (lv_room (by first | exact Nat.le_of_ble_eq_true rfl | simp [rf_cat, ct_ref, ct_int, ct_null, ct_long])) dL_law_998 (room_c hc hs (by omega) (by omega))) hV hS hA (fun r h1 H locs hV hS hp _ => ?_)
  obtain ⟨σ1, v, hW, hrow, hoc⟩ := hp
  refine lv_istore (lv' := [(6, .int r), (0, .ref b), (1, .ref c0), (2, .ref m0), (3, .ref o1), (4, .ref o2), (5, .int (nI i))]) hx hb dL_law_1001 hl (by decide) rfl (fun ls hl => ?_)
  refine lv_aload_n hx hb dL_law_1003 rfl (lv_at hl 3 rfl) ?_
  refine lv_aload_n hx hb dL_law_1004 rfl (lv_at hl 1 rfl) ?_
  refine lv_iload hx hb dL_law_1005 (lv_at hl 6 rfl) ?_
  refine lv_iconst (v := 1) hx hb dL_law_1007 (by decide) ?_
  refine lv_iadd hx hb dL_law_1008 ?_
  refine va_sld hx hb hX hbl hbA hS (i := nI i + 1) i1 dL_law_1009 ?_
  obtain ⟨fs, hf⟩ := hW.m0
  refine m_calli (va_runV (As := [.int (xs (nI i + 1).toNatClampNeg)]) (rest := []) ⟨hx, hb, hml, hown, hts⟩ (w_X5_doneBy (l := l) (H.size) hW (xs (nI i + 1).toNatClampNeg) ) (cwV 1 hts (gL_law_X5_doneBy.up wsL_law_in) rfl rfl rfl (by decide +kernel) ⟨Nat.le_of_ble_eq_true rfl, Nat.le_of_ble_eq_true rfl⟩) (m_preV (r := (RX5, TX5, 34)) hE hV hS hA hf rfl) rfl rfl hl.1 rfl (lv_room (by exact Nat.le_of_ble_eq_true rfl)) dL_law_1010 (room_c hc hs (by omega) (by omega))) hV hS hA (fun b2 h2 H locs hV hS hp _ => ?_)
  obtain ⟨μ1, hW, k1, k2, hom⟩ := hp
  refine lv_istore (lv' := [(7, .int b2), (6, .int r), (0, .ref b), (1, .ref c0), (2, .ref m0), (3, .ref o1), (4, .ref o2), (5, .int (nI i))]) hx hb dL_law_1013 hl (by decide) rfl (fun ls hl => ?_)
  refine lv_aload_n hx hb dL_law_1015 rfl (lv_at hl 4 rfl) ?_
  obtain ⟨fs, hf⟩ := hW.m0
  refine m_calli (va_runV (As := []) (rest := []) ⟨hx, hb, hml, hown, hts⟩ (w_X5_thrown (l := l) (H.size) hW) (cwV 0 hts (gL_law_X5_thrown.up wsL_law_in) rfl rfl rfl (by decide +kernel) ⟨Nat.le_of_ble_eq_true rfl, Nat.le_of_ble_eq_true rfl⟩) (m_preV (r := (RX5, TX5, 34)) hE hV hS hA hf rfl) rfl rfl hl.1 rfl (lv_room (by exact Nat.le_of_ble_eq_true rfl)) dL_law_1016 (room_c hc hs (by omega) (by omega))) hV hS hA (fun r3 h3 H locs hV hS hp _ => ?_)
  obtain ⟨e3, e4⟩ := hp
  rw [e3] at hV
  clear e3
  subst e4
  refine lv_iload hx hb dL_law_1019 (lv_at hl 1 rfl) ?_
  obtain ⟨hr1, hth, hval⟩ := R.s_doneBy _ _ _ _ _ _ _ _ _ hj hw0 hr hoc hom hW.wf
  refine lv_icmp_eq (tgt := 1026) hx hb dL_law_1021 (by decide) (fun _ => ?_) (fun z => absurd hth z)
  refine lv_iload hx hb dL_law_1026 (lv_at hl 1 rfl) ?_
  have kq := kk _ _ _ _ _ _ hV hS hW hr1 (lv_sub hl [2, 3, 4, 5, 6, 7] rfl)
  refine lv_if_ne (tgt := 1043) hx hb dL_law_1028 (by decide) (fun c9 => ?_) (fun c9 => ?_)
  · exact lv_goto (tgt := 1902) hx hb dL_law_1043 (by decide) (W.widen (by omega) (by omega) kq)
  have r0 : r = 0 := c9
  have hv := hval r0
  obtain ⟨f, hrow, hf0⟩ := hrow r0
  refine lv_aload_n hx hb dL_law_1031 rfl (lv_at hl 5 rfl) ?_
  refine lv_iconst (v := 0) hx hb dL_law_1032 (by decide) ?_
  refine m_lald hx hb hK hV 1 (i := 0) (f := f) (x := v) (by rw [k1]; exact hrow) rfl (show vp_in (nI 0) 1 from vp_in_nI (by decide) (by decide)) (by rw [← hf0]; rfl) dL_law_1033 ?_
  refine lv_iload hx hb dL_law_1034 (lv_at hl 0 rfl) ?_
  refine lv_i2l (v := (b2).toInt64) hx hb dL_law_1036 rfl ?_
  refine m_lcmp_eq (tgt := 1043) hx hb dL_law_1037 dL_law_1038 (by decide) (fun _ => ?_) (fun z => absurd hv z)
  refine lv_goto (tgt := 1902) hx hb dL_law_1043 (by decide) ?_
  exact W.widen (by omega) (by omega) kq
set_option maxRecDepth 100000 in
set_option maxHeartbeats 4000000 in
theorem law_doneIn {p : Program} {l : Launch} {e : Env} {s : State} {m : MethodId} {below : List Frame} {meth : Method} {c : Code} {b L : Nat} {xs : Nat → Int32} {D : va_G} {cs : mC} {df : Nat} {A : Nat → Prop} (C : LC p l s m c b L xs D cs df A) {Rl : Nat → KS → KS → Prop} (R : SimP Rl) {c0 m0 o1 o2 : Nat} {σ μ : KS} {h : mH} {H : Heap} {locs : List Loc} {cells slots : Nat} {Q : State → Prop} (hV : mV D h A H) (hS : va_S A s.heap H locs) (hW : DSt cs df c0 m0 o1 o2 σ μ h) {j : Nat} (hj : j < 512) (hr : Rl j σ μ) {i : Nat} (hi : i + 5 ≤ L) {ls : Array Slot} (hl : lv_has ls 9 (lawL b c0 m0 o1 o2 i)) (hc : cells + 8 ≤ 603072) (hs : slots + 400 ≤ 7223402) (kk : ∀ (σ1 μ1 : KS) (h1 : mH) (H1 : Heap) (locs1 : List Loc) (ls1 : Array Slot), mV D h1 A H1 → va_S A s.heap H1 locs1 → DSt cs df c0 m0 o1 o2 σ1 μ1 h1 → Rl (j + 1) σ1 μ1 → lv_has ls1 9 (lawL b c0 m0 o1 o2 i) → W p l e room_1 s m #[Value.ref b] below meth c H1 locs1 (cells + 8) (slots + 400) Q (F0 m 1902 ls1 [])) : W p l e room_1 s m #[Value.ref b] below meth c H locs cells slots Q (F0 m 1046 ls []) := by
  obtain ⟨hx, hb, hml, hown, hts, hX, hbl, hbA, hE, hN, hA, hfl, hL⟩ := C
  have hK := hE.1.1
  have hw0 := hW.wf
  have i1 : vp_in (nI i + 1) L := lw_in (k := 1) (by decide) hi hL
  have i2 : vp_in (nI i + 2) L := lw_in (k := 2) (by decide) hi hL
  have i3 : vp_in (nI i + 3) L := lw_in (k := 3) (by decide) hi hL
  have i4 : vp_in (nI i + 4) L := lw_in (k := 4) (by decide) hi hL
  refine lv_aload_n hx hb dL_law_1046 rfl (lv_at hl 1 rfl) ?_
  refine lv_aload_n hx hb dL_law_1047 rfl (lv_at hl 0 rfl) ?_
  refine lv_iload hx hb dL_law_1048 (lv_at hl 5 rfl) ?_
  refine lv_iconst (v := 1) hx hb dL_law_1050 (by decide) ?_
  refine lv_iadd hx hb dL_law_1051 ?_
  refine va_sld hx hb hX hbl hbA hS (i := nI i + 1) i1 dL_law_1052 ?_
  refine lv_aload_n hx hb dL_law_1053 rfl (lv_at hl 3 rfl) ?_
  refine m_calli (vx_runSW (As := [.ref c0, .int (xs (nI i + 1).toNatClampNeg), .ref o1]) (rest := []) ⟨hx, hb, hml, hown, hts⟩ (w_L_doneIn (l := l) hfl (D := D) (H.size) hW (xs (nI i + 1).toNatClampNeg) ) (vx_cwSW 3 hts (goodIn_l gL_law_L_doneIn) rfl rfl rfl (by decide +kernel) ⟨Nat.le_of_ble_eq_true rfl, Nat.le_of_ble_eq_true rfl⟩) (l_preS hN hE hV hS hA) rfl rfl hl.1 rfl (lv_room (by first | exact Nat.le_of_ble_eq_true rfl | simp [rf_cat, ct_ref, ct_int, ct_null, ct_long])) dL_law_1054 (room_c hc hs (by omega) (by omega))) hV hS hA (fun r h1 H locs hV hS hp _ => ?_)
  obtain ⟨σ1, v, hW, hrow, hoc⟩ := hp
  refine lv_istore (lv' := [(6, .int r), (0, .ref b), (1, .ref c0), (2, .ref m0), (3, .ref o1), (4, .ref o2), (5, .int (nI i))]) hx hb dL_law_1057 hl (by decide) rfl (fun ls hl => ?_)
  refine lv_aload_n hx hb dL_law_1059 rfl (lv_at hl 3 rfl) ?_
  refine lv_aload_n hx hb dL_law_1060 rfl (lv_at hl 1 rfl) ?_
  refine lv_iload hx hb dL_law_1061 (lv_at hl 6 rfl) ?_
  refine lv_iconst (v := 1) hx hb dL_law_1063 (by decide) ?_
  refine lv_iadd hx hb dL_law_1064 ?_
  refine va_sld hx hb hX hbl hbA hS (i := nI i + 1) i1 dL_law_1065 ?_
  obtain ⟨fs, hf⟩ := hW.m0
  refine m_calli (va_runV (As := [.int (xs (nI i + 1).toNatClampNeg)]) (rest := []) ⟨hx, hb, hml, hown, hts⟩ (w_X5_doneIn (l := l) (H.size) hW (xs (nI i + 1).toNatClampNeg) ) (cwV 1 hts (gL_law_X5_doneIn.up wsL_law_in) rfl rfl rfl (by decide +kernel) ⟨Nat.le_of_ble_eq_true rfl, Nat.le_of_ble_eq_true rfl⟩) (m_preV (r := (RX5, TX5, 34)) hE hV hS hA hf rfl) rfl rfl hl.1 rfl (lv_room (by exact Nat.le_of_ble_eq_true rfl)) dL_law_1066 (room_c hc hs (by omega) (by omega))) hV hS hA (fun b2 h2 H locs hV hS hp _ => ?_)
  obtain ⟨μ1, hW, k1, k2, hom⟩ := hp
  refine lv_istore (lv' := [(7, .int b2), (6, .int r), (0, .ref b), (1, .ref c0), (2, .ref m0), (3, .ref o1), (4, .ref o2), (5, .int (nI i))]) hx hb dL_law_1069 hl (by decide) rfl (fun ls hl => ?_)
  refine lv_aload_n hx hb dL_law_1071 rfl (lv_at hl 4 rfl) ?_
  obtain ⟨fs, hf⟩ := hW.m0
  refine m_calli (va_runV (As := []) (rest := []) ⟨hx, hb, hml, hown, hts⟩ (w_X5_thrown (l := l) (H.size) hW) (cwV 0 hts (gL_law_X5_thrown.up wsL_law_in) rfl rfl rfl (by decide +kernel) ⟨Nat.le_of_ble_eq_true rfl, Nat.le_of_ble_eq_true rfl⟩) (m_preV (r := (RX5, TX5, 34)) hE hV hS hA hf rfl) rfl rfl hl.1 rfl (lv_room (by exact Nat.le_of_ble_eq_true rfl)) dL_law_1072 (room_c hc hs (by omega) (by omega))) hV hS hA (fun r3 h3 H locs hV hS hp _ => ?_)
  obtain ⟨e3, e4⟩ := hp
  rw [e3] at hV
  clear e3
  subst e4
  refine lv_iload hx hb dL_law_1075 (lv_at hl 1 rfl) ?_
  obtain ⟨hr1, hth, hval⟩ := R.s_doneIn _ _ _ _ _ _ _ _ _ hj hw0 hr hoc hom hW.wf
  refine lv_icmp_eq (tgt := 1082) hx hb dL_law_1077 (by decide) (fun _ => ?_) (fun z => absurd hth z)
  refine lv_iload hx hb dL_law_1082 (lv_at hl 1 rfl) ?_
  have kq := kk _ _ _ _ _ _ hV hS hW hr1 (lv_sub hl [2, 3, 4, 5, 6, 7] rfl)
  refine lv_if_ne (tgt := 1099) hx hb dL_law_1084 (by decide) (fun c9 => ?_) (fun c9 => ?_)
  · exact lv_goto (tgt := 1902) hx hb dL_law_1099 (by decide) (W.widen (by omega) (by omega) kq)
  have r0 : r = 0 := c9
  have hv := hval r0
  obtain ⟨f, hrow, hf0⟩ := hrow r0
  refine lv_aload_n hx hb dL_law_1087 rfl (lv_at hl 5 rfl) ?_
  refine lv_iconst (v := 0) hx hb dL_law_1088 (by decide) ?_
  refine m_lald hx hb hK hV 1 (i := 0) (f := f) (x := v) (by rw [k1]; exact hrow) rfl (show vp_in (nI 0) 1 from vp_in_nI (by decide) (by decide)) (by rw [← hf0]; rfl) dL_law_1089 ?_
  refine lv_iload hx hb dL_law_1090 (lv_at hl 0 rfl) ?_
  refine lv_i2l (v := (b2).toInt64) hx hb dL_law_1092 rfl ?_
  refine m_lcmp_eq (tgt := 1099) hx hb dL_law_1093 dL_law_1094 (by decide) (fun _ => ?_) (fun z => absurd hv z)
  refine lv_goto (tgt := 1902) hx hb dL_law_1099 (by decide) ?_
  exact W.widen (by omega) (by omega) kq
set_option maxRecDepth 100000 in
set_option maxHeartbeats 4000000 in
theorem law_admitted {p : Program} {l : Launch} {e : Env} {s : State} {m : MethodId} {below : List Frame} {meth : Method} {c : Code} {b L : Nat} {xs : Nat → Int32} {D : va_G} {cs : mC} {df : Nat} {A : Nat → Prop} (C : LC p l s m c b L xs D cs df A) {Rl : Nat → KS → KS → Prop} (R : SimP Rl) {c0 m0 o1 o2 : Nat} {σ μ : KS} {h : mH} {H : Heap} {locs : List Loc} {cells slots : Nat} {Q : State → Prop} (hV : mV D h A H) (hS : va_S A s.heap H locs) (hW : DSt cs df c0 m0 o1 o2 σ μ h) {j : Nat} (hj : j < 512) (hr : Rl j σ μ) {i : Nat} (hi : i + 5 ≤ L) {ls : Array Slot} (hl : lv_has ls 9 (lawL b c0 m0 o1 o2 i)) (hc : cells + 8 ≤ 603072) (hs : slots + 400 ≤ 7223402) (kk : ∀ (σ1 μ1 : KS) (h1 : mH) (H1 : Heap) (locs1 : List Loc) (ls1 : Array Slot), mV D h1 A H1 → va_S A s.heap H1 locs1 → DSt cs df c0 m0 o1 o2 σ1 μ1 h1 → Rl (j + 1) σ1 μ1 → lv_has ls1 9 (lawL b c0 m0 o1 o2 i) → W p l e room_1 s m #[Value.ref b] below meth c H1 locs1 (cells + 8) (slots + 400) Q (F0 m 1902 ls1 [])) : W p l e room_1 s m #[Value.ref b] below meth c H locs cells slots Q (F0 m 1102 ls []) := by
  obtain ⟨hx, hb, hml, hown, hts, hX, hbl, hbA, hE, hN, hA, hfl, hL⟩ := C
  have hK := hE.1.1
  have hw0 := hW.wf
  have i1 : vp_in (nI i + 1) L := lw_in (k := 1) (by decide) hi hL
  have i2 : vp_in (nI i + 2) L := lw_in (k := 2) (by decide) hi hL
  have i3 : vp_in (nI i + 3) L := lw_in (k := 3) (by decide) hi hL
  have i4 : vp_in (nI i + 4) L := lw_in (k := 4) (by decide) hi hL
  refine lv_aload_n hx hb dL_law_1102 rfl (lv_at hl 1 rfl) ?_
  obtain ⟨fs, hf⟩ := hW.c0
  refine m_calli (va_runV (As := []) (rest := []) ⟨hx, hb, hml, hown, hts⟩ (w_X4_admitted (l := l) (H.size) hW ) (cwV 0 hts (gL_law_X4_admitted.up wsL_law_in) rfl rfl rfl (by decide +kernel) ⟨Nat.le_of_ble_eq_true rfl, Nat.le_of_ble_eq_true rfl⟩) (m_preV (r := (RX4, TX4, 11)) hE hV hS hA hf rfl) rfl rfl hl.1 rfl (lv_room (by exact Nat.le_of_ble_eq_true rfl)) dL_law_1103 (room_c hc hs (by omega) (by omega))) hV hS hA (fun r h1 H locs hV hS hp _ => ?_)
  obtain ⟨e3, e4⟩ := hp
  rw [e3] at hV
  clear e3
  subst e4
  refine lv_aload_n hx hb dL_law_1106 rfl (lv_at hl 2 rfl) ?_
  obtain ⟨fs, hf⟩ := hW.m0
  refine m_calli (va_runV (As := []) (rest := [.int ((sumI (fun t => if kB σ 36 t = true then 0 else kI σ 39 t) (kN σ 62 2)))]) ⟨hx, hb, hml, hown, hts⟩ (w_X5_admitted (l := l) (H.size) hW  ) (cwV 0 hts (gL_law_X5_admitted.up wsL_law_in) rfl rfl rfl (by decide +kernel) ⟨Nat.le_of_ble_eq_true rfl, Nat.le_of_ble_eq_true rfl⟩) (m_preV (r := (RX5, TX5, 34)) hE hV hS hA hf rfl) rfl rfl hl.1 rfl (lv_room (by exact Nat.le_of_ble_eq_true rfl)) dL_law_1107 (room_c hc hs (by omega) (by omega))) hV hS hA (fun b2 h2 H locs hV hS hp _ => ?_)
  obtain ⟨μ1, hW, k1, k2, hom⟩ := hp
  obtain ⟨rfl, rfl⟩ := hom
  refine lv_icmp_eq (tgt := 1902) hx hb dL_law_1110 (by decide) (fun _ => ?_) (fun z => absurd (R.e_admitted _ _ _ hj hw0 hr) z)
  exact W.widen (by omega) (by omega) (kk _ _ _ _ _ _ hV hS hW (R.s_th _ _ _ hr) (lv_sub hl [0, 1, 2, 3, 4, 5] rfl))
set_option maxRecDepth 100000 in
set_option maxHeartbeats 4000000 in
theorem law_promise {p : Program} {l : Launch} {e : Env} {s : State} {m : MethodId} {below : List Frame} {meth : Method} {c : Code} {b L : Nat} {xs : Nat → Int32} {D : va_G} {cs : mC} {df : Nat} {A : Nat → Prop} (C : LC p l s m c b L xs D cs df A) {Rl : Nat → KS → KS → Prop} (R : SimP Rl) {c0 m0 o1 o2 : Nat} {σ μ : KS} {h : mH} {H : Heap} {locs : List Loc} {cells slots : Nat} {Q : State → Prop} (hV : mV D h A H) (hS : va_S A s.heap H locs) (hW : DSt cs df c0 m0 o1 o2 σ μ h) {j : Nat} (hj : j < 512) (hr : Rl j σ μ) {i : Nat} (hi : i + 5 ≤ L) {ls : Array Slot} (hl : lv_has ls 9 (lawL b c0 m0 o1 o2 i)) (hc : cells + 8 ≤ 603072) (hs : slots + 400 ≤ 7223402) (kk : ∀ (σ1 μ1 : KS) (h1 : mH) (H1 : Heap) (locs1 : List Loc) (ls1 : Array Slot), mV D h1 A H1 → va_S A s.heap H1 locs1 → DSt cs df c0 m0 o1 o2 σ1 μ1 h1 → Rl (j + 1) σ1 μ1 → lv_has ls1 9 (lawL b c0 m0 o1 o2 i) → W p l e room_1 s m #[Value.ref b] below meth c H1 locs1 (cells + 8) (slots + 400) Q (F0 m 1902 ls1 [])) : W p l e room_1 s m #[Value.ref b] below meth c H locs cells slots Q (F0 m 1115 ls []) := by
  obtain ⟨hx, hb, hml, hown, hts, hX, hbl, hbA, hE, hN, hA, hfl, hL⟩ := C
  have hK := hE.1.1
  have hw0 := hW.wf
  have i1 : vp_in (nI i + 1) L := lw_in (k := 1) (by decide) hi hL
  have i2 : vp_in (nI i + 2) L := lw_in (k := 2) (by decide) hi hL
  have i3 : vp_in (nI i + 3) L := lw_in (k := 3) (by decide) hi hL
  have i4 : vp_in (nI i + 4) L := lw_in (k := 4) (by decide) hi hL
  refine lv_aload_n hx hb dL_law_1115 rfl (lv_at hl 1 rfl) ?_
  obtain ⟨fs, hf⟩ := hW.c0
  refine m_calli (va_runV (As := []) (rest := []) ⟨hx, hb, hml, hown, hts⟩ (w_X4_promise (l := l) (H.size) hW ) (cwV 0 hts (gL_law_X4_promise.up wsL_law_in) rfl rfl rfl (by decide +kernel) ⟨Nat.le_of_ble_eq_true rfl, Nat.le_of_ble_eq_true rfl⟩) (m_preV (r := (RX4, TX4, 11)) hE hV hS hA hf rfl) rfl rfl hl.1 rfl (lv_room (by exact Nat.le_of_ble_eq_true rfl)) dL_law_1116 (room_c hc hs (by omega) (by omega))) hV hS hA (fun r h1 H locs hV hS hp _ => ?_)
  obtain ⟨e3, e4⟩ := hp
  rw [e3] at hV
  clear e3
  subst e4
  refine lv_aload_n hx hb dL_law_1119 rfl (lv_at hl 2 rfl) ?_
  obtain ⟨fs, hf⟩ := hW.m0
  refine m_calli (va_runV (As := []) (rest := [.int ((if kI σ 1 0 < sumI (fun t => kI σ 10 t) (kN σ 62 0) then kI σ 1 0 else sumI (fun t => kI σ 10 t) (kN σ 62 0)))]) ⟨hx, hb, hml, hown, hts⟩ (w_X5_promise (l := l) (H.size) hW  ) (cwV 0 hts (gL_law_X5_promise.up wsL_law_in) rfl rfl rfl (by decide +kernel) ⟨Nat.le_of_ble_eq_true rfl, Nat.le_of_ble_eq_true rfl⟩) (m_preV (r := (RX5, TX5, 34)) hE hV hS hA hf rfl) rfl rfl hl.1 rfl (lv_room (by exact Nat.le_of_ble_eq_true rfl)) dL_law_1120 (room_c hc hs (by omega) (by omega))) hV hS hA (fun b2 h2 H locs hV hS hp _ => ?_)
  obtain ⟨μ1, hW, k1, k2, hom⟩ := hp
  obtain ⟨rfl, rfl⟩ := hom
  refine lv_icmp_eq (tgt := 1902) hx hb dL_law_1123 (by decide) (fun _ => ?_) (fun z => absurd (R.e_promise _ _ _ hj hw0 hr) z)
  exact W.widen (by omega) (by omega) (kk _ _ _ _ _ _ hV hS hW (R.s_th _ _ _ hr) (lv_sub hl [0, 1, 2, 3, 4, 5] rfl))
set_option maxRecDepth 100000 in
set_option maxHeartbeats 4000000 in
theorem law_deadlineOf {p : Program} {l : Launch} {e : Env} {s : State} {m : MethodId} {below : List Frame} {meth : Method} {c : Code} {b L : Nat} {xs : Nat → Int32} {D : va_G} {cs : mC} {df : Nat} {A : Nat → Prop} (C : LC p l s m c b L xs D cs df A) {Rl : Nat → KS → KS → Prop} (R : SimP Rl) {c0 m0 o1 o2 : Nat} {σ μ : KS} {h : mH} {H : Heap} {locs : List Loc} {cells slots : Nat} {Q : State → Prop} (hV : mV D h A H) (hS : va_S A s.heap H locs) (hW : DSt cs df c0 m0 o1 o2 σ μ h) {j : Nat} (hj : j < 512) (hr : Rl j σ μ) {i : Nat} (hi : i + 5 ≤ L) {ls : Array Slot} (hl : lv_has ls 9 (lawL b c0 m0 o1 o2 i)) (hc : cells + 8 ≤ 603072) (hs : slots + 400 ≤ 7223402) (kk : ∀ (σ1 μ1 : KS) (h1 : mH) (H1 : Heap) (locs1 : List Loc) (ls1 : Array Slot), mV D h1 A H1 → va_S A s.heap H1 locs1 → DSt cs df c0 m0 o1 o2 σ1 μ1 h1 → Rl (j + 1) σ1 μ1 → lv_has ls1 9 (lawL b c0 m0 o1 o2 i) → W p l e room_1 s m #[Value.ref b] below meth c H1 locs1 (cells + 8) (slots + 400) Q (F0 m 1902 ls1 [])) : W p l e room_1 s m #[Value.ref b] below meth c H locs cells slots Q (F0 m 1128 ls []) := by
  obtain ⟨hx, hb, hml, hown, hts, hX, hbl, hbA, hE, hN, hA, hfl, hL⟩ := C
  have hK := hE.1.1
  have hw0 := hW.wf
  have i1 : vp_in (nI i + 1) L := lw_in (k := 1) (by decide) hi hL
  have i2 : vp_in (nI i + 2) L := lw_in (k := 2) (by decide) hi hL
  have i3 : vp_in (nI i + 3) L := lw_in (k := 3) (by decide) hi hL
  have i4 : vp_in (nI i + 4) L := lw_in (k := 4) (by decide) hi hL
  refine lv_aload_n hx hb dL_law_1128 rfl (lv_at hl 1 rfl) ?_
  refine lv_aload_n hx hb dL_law_1129 rfl (lv_at hl 0 rfl) ?_
  refine lv_iload hx hb dL_law_1130 (lv_at hl 5 rfl) ?_
  refine lv_iconst (v := 1) hx hb dL_law_1132 (by decide) ?_
  refine lv_iadd hx hb dL_law_1133 ?_
  refine va_sld hx hb hX hbl hbA hS (i := nI i + 1) i1 dL_law_1134 ?_
  refine lv_aload_n hx hb dL_law_1135 rfl (lv_at hl 3 rfl) ?_
  refine m_calli (vx_runSW (As := [.ref c0, .int (xs (nI i + 1).toNatClampNeg), .ref o1]) (rest := []) ⟨hx, hb, hml, hown, hts⟩ (w_L_deadlineOf (l := l) hfl (D := D) (H.size) hW (xs (nI i + 1).toNatClampNeg) ) (vx_cwSW 3 hts (goodIn_l gL_law_L_deadlineOf) rfl rfl rfl (by decide +kernel) ⟨Nat.le_of_ble_eq_true rfl, Nat.le_of_ble_eq_true rfl⟩) (l_preS hN hE hV hS hA) rfl rfl hl.1 rfl (lv_room (by first | exact Nat.le_of_ble_eq_true rfl | simp [rf_cat, ct_ref, ct_int, ct_null, ct_long])) dL_law_1136 (room_c hc hs (by omega) (by omega))) hV hS hA (fun r h1 H locs hV hS hp _ => ?_)
  obtain ⟨σ1, v, hW, hrow, hoc⟩ := hp
  refine lv_istore (lv' := [(6, .int r), (0, .ref b), (1, .ref c0), (2, .ref m0), (3, .ref o1), (4, .ref o2), (5, .int (nI i))]) hx hb dL_law_1139 hl (by decide) rfl (fun ls hl => ?_)
  refine lv_aload_n hx hb dL_law_1141 rfl (lv_at hl 3 rfl) ?_
  refine lv_aload_n hx hb dL_law_1142 rfl (lv_at hl 1 rfl) ?_
  refine lv_iload hx hb dL_law_1143 (lv_at hl 6 rfl) ?_
  refine lv_iconst (v := 1) hx hb dL_law_1145 (by decide) ?_
  refine lv_iadd hx hb dL_law_1146 ?_
  refine va_sld hx hb hX hbl hbA hS (i := nI i + 1) i1 dL_law_1147 ?_
  obtain ⟨fs, hf⟩ := hW.m0
  refine m_calli (va_runV (As := [.int (xs (nI i + 1).toNatClampNeg)]) (rest := []) ⟨hx, hb, hml, hown, hts⟩ (w_X5_deadlineOf (l := l) (H.size) hW (xs (nI i + 1).toNatClampNeg) ) (cwV 1 hts (gL_law_X5_deadlineOf.up wsL_law_in) rfl rfl rfl (by decide +kernel) ⟨Nat.le_of_ble_eq_true rfl, Nat.le_of_ble_eq_true rfl⟩) (m_preV (r := (RX5, TX5, 34)) hE hV hS hA hf rfl) rfl rfl hl.1 rfl (lv_room (by exact Nat.le_of_ble_eq_true rfl)) dL_law_1148 (room_c hc hs (by omega) (by omega))) hV hS hA (fun b2 h2 H locs hV hS hp _ => ?_)
  obtain ⟨μ1, hW, k1, k2, hom⟩ := hp
  refine lv_istore (lv' := [(7, .int b2), (6, .int r), (0, .ref b), (1, .ref c0), (2, .ref m0), (3, .ref o1), (4, .ref o2), (5, .int (nI i))]) hx hb dL_law_1151 hl (by decide) rfl (fun ls hl => ?_)
  refine lv_aload_n hx hb dL_law_1153 rfl (lv_at hl 4 rfl) ?_
  obtain ⟨fs, hf⟩ := hW.m0
  refine m_calli (va_runV (As := []) (rest := []) ⟨hx, hb, hml, hown, hts⟩ (w_X5_thrown (l := l) (H.size) hW) (cwV 0 hts (gL_law_X5_thrown.up wsL_law_in) rfl rfl rfl (by decide +kernel) ⟨Nat.le_of_ble_eq_true rfl, Nat.le_of_ble_eq_true rfl⟩) (m_preV (r := (RX5, TX5, 34)) hE hV hS hA hf rfl) rfl rfl hl.1 rfl (lv_room (by exact Nat.le_of_ble_eq_true rfl)) dL_law_1154 (room_c hc hs (by omega) (by omega))) hV hS hA (fun r3 h3 H locs hV hS hp _ => ?_)
  obtain ⟨e3, e4⟩ := hp
  rw [e3] at hV
  clear e3
  subst e4
  refine lv_iload hx hb dL_law_1157 (lv_at hl 1 rfl) ?_
  obtain ⟨hr1, hth, hval⟩ := R.s_deadlineOf _ _ _ _ _ _ _ _ _ hj hw0 hr hoc hom hW.wf
  refine lv_icmp_eq (tgt := 1164) hx hb dL_law_1159 (by decide) (fun _ => ?_) (fun z => absurd hth z)
  refine lv_iload hx hb dL_law_1164 (lv_at hl 1 rfl) ?_
  have kq := kk _ _ _ _ _ _ hV hS hW hr1 (lv_sub hl [2, 3, 4, 5, 6, 7] rfl)
  refine lv_if_ne (tgt := 1181) hx hb dL_law_1166 (by decide) (fun c9 => ?_) (fun c9 => ?_)
  · exact lv_goto (tgt := 1902) hx hb dL_law_1181 (by decide) (W.widen (by omega) (by omega) kq)
  have r0 : r = 0 := c9
  have hv := hval r0
  obtain ⟨f, hrow, hf0⟩ := hrow r0
  refine lv_aload_n hx hb dL_law_1169 rfl (lv_at hl 5 rfl) ?_
  refine lv_iconst (v := 0) hx hb dL_law_1170 (by decide) ?_
  refine m_lald hx hb hK hV 1 (i := 0) (f := f) (x := v) (by rw [k1]; exact hrow) rfl (show vp_in (nI 0) 1 from vp_in_nI (by decide) (by decide)) (by rw [← hf0]; rfl) dL_law_1171 ?_
  refine lv_iload hx hb dL_law_1172 (lv_at hl 0 rfl) ?_
  refine lv_i2l (v := (b2).toInt64) hx hb dL_law_1174 rfl ?_
  refine m_lcmp_eq (tgt := 1181) hx hb dL_law_1175 dL_law_1176 (by decide) (fun _ => ?_) (fun z => absurd hv z)
  refine lv_goto (tgt := 1902) hx hb dL_law_1181 (by decide) ?_
  exact W.widen (by omega) (by omega) kq
set_option maxRecDepth 100000 in
set_option maxHeartbeats 4000000 in
theorem law_urgencyOf {p : Program} {l : Launch} {e : Env} {s : State} {m : MethodId} {below : List Frame} {meth : Method} {c : Code} {b L : Nat} {xs : Nat → Int32} {D : va_G} {cs : mC} {df : Nat} {A : Nat → Prop} (C : LC p l s m c b L xs D cs df A) {Rl : Nat → KS → KS → Prop} (R : SimP Rl) {c0 m0 o1 o2 : Nat} {σ μ : KS} {h : mH} {H : Heap} {locs : List Loc} {cells slots : Nat} {Q : State → Prop} (hV : mV D h A H) (hS : va_S A s.heap H locs) (hW : DSt cs df c0 m0 o1 o2 σ μ h) {j : Nat} (hj : j < 512) (hr : Rl j σ μ) {i : Nat} (hi : i + 5 ≤ L) {ls : Array Slot} (hl : lv_has ls 9 (lawL b c0 m0 o1 o2 i)) (hc : cells + 8 ≤ 603072) (hs : slots + 400 ≤ 7223402) (kk : ∀ (σ1 μ1 : KS) (h1 : mH) (H1 : Heap) (locs1 : List Loc) (ls1 : Array Slot), mV D h1 A H1 → va_S A s.heap H1 locs1 → DSt cs df c0 m0 o1 o2 σ1 μ1 h1 → Rl (j + 1) σ1 μ1 → lv_has ls1 9 (lawL b c0 m0 o1 o2 i) → W p l e room_1 s m #[Value.ref b] below meth c H1 locs1 (cells + 8) (slots + 400) Q (F0 m 1902 ls1 [])) : W p l e room_1 s m #[Value.ref b] below meth c H locs cells slots Q (F0 m 1184 ls []) := by
  obtain ⟨hx, hb, hml, hown, hts, hX, hbl, hbA, hE, hN, hA, hfl, hL⟩ := C
  have hK := hE.1.1
  have hw0 := hW.wf
  have i1 : vp_in (nI i + 1) L := lw_in (k := 1) (by decide) hi hL
  have i2 : vp_in (nI i + 2) L := lw_in (k := 2) (by decide) hi hL
  have i3 : vp_in (nI i + 3) L := lw_in (k := 3) (by decide) hi hL
  have i4 : vp_in (nI i + 4) L := lw_in (k := 4) (by decide) hi hL
  refine lv_aload_n hx hb dL_law_1184 rfl (lv_at hl 1 rfl) ?_
  refine lv_aload_n hx hb dL_law_1185 rfl (lv_at hl 0 rfl) ?_
  refine lv_iload hx hb dL_law_1186 (lv_at hl 5 rfl) ?_
  refine lv_iconst (v := 1) hx hb dL_law_1188 (by decide) ?_
  refine lv_iadd hx hb dL_law_1189 ?_
  refine va_sld hx hb hX hbl hbA hS (i := nI i + 1) i1 dL_law_1190 ?_
  refine lv_aload_n hx hb dL_law_1191 rfl (lv_at hl 3 rfl) ?_
  refine m_calli (vx_runSW (As := [.ref c0, .int (xs (nI i + 1).toNatClampNeg), .ref o1]) (rest := []) ⟨hx, hb, hml, hown, hts⟩ (w_L_urgencyOf (l := l) hfl (D := D) (H.size) hW (xs (nI i + 1).toNatClampNeg) ) (vx_cwSW 3 hts (goodIn_l gL_law_L_urgencyOf) rfl rfl rfl (by decide +kernel) ⟨Nat.le_of_ble_eq_true rfl, Nat.le_of_ble_eq_true rfl⟩) (l_preS hN hE hV hS hA) rfl rfl hl.1 rfl (lv_room (by first | exact Nat.le_of_ble_eq_true rfl | simp [rf_cat, ct_ref, ct_int, ct_null, ct_long])) dL_law_1192 (room_c hc hs (by omega) (by omega))) hV hS hA (fun r h1 H locs hV hS hp _ => ?_)
  obtain ⟨σ1, v, hW, hrow, hoc⟩ := hp
  refine lv_istore (lv' := [(6, .int r), (0, .ref b), (1, .ref c0), (2, .ref m0), (3, .ref o1), (4, .ref o2), (5, .int (nI i))]) hx hb dL_law_1195 hl (by decide) rfl (fun ls hl => ?_)
  refine lv_aload_n hx hb dL_law_1197 rfl (lv_at hl 3 rfl) ?_
  refine lv_aload_n hx hb dL_law_1198 rfl (lv_at hl 1 rfl) ?_
  refine lv_iload hx hb dL_law_1199 (lv_at hl 6 rfl) ?_
  refine lv_iconst (v := 1) hx hb dL_law_1201 (by decide) ?_
  refine lv_iadd hx hb dL_law_1202 ?_
  refine va_sld hx hb hX hbl hbA hS (i := nI i + 1) i1 dL_law_1203 ?_
  obtain ⟨fs, hf⟩ := hW.m0
  refine m_calli (va_runV (As := [.int (xs (nI i + 1).toNatClampNeg)]) (rest := []) ⟨hx, hb, hml, hown, hts⟩ (w_X5_urgencyOf (l := l) (H.size) hW (xs (nI i + 1).toNatClampNeg) ) (cwV 1 hts (gL_law_X5_urgencyOf.up wsL_law_in) rfl rfl rfl (by decide +kernel) ⟨Nat.le_of_ble_eq_true rfl, Nat.le_of_ble_eq_true rfl⟩) (m_preV (r := (RX5, TX5, 34)) hE hV hS hA hf rfl) rfl rfl hl.1 rfl (lv_room (by exact Nat.le_of_ble_eq_true rfl)) dL_law_1204 (room_c hc hs (by omega) (by omega))) hV hS hA (fun b2 h2 H locs hV hS hp _ => ?_)
  obtain ⟨μ1, hW, k1, k2, hom⟩ := hp
  refine lv_istore (lv' := [(7, .int b2), (6, .int r), (0, .ref b), (1, .ref c0), (2, .ref m0), (3, .ref o1), (4, .ref o2), (5, .int (nI i))]) hx hb dL_law_1207 hl (by decide) rfl (fun ls hl => ?_)
  refine lv_aload_n hx hb dL_law_1209 rfl (lv_at hl 4 rfl) ?_
  obtain ⟨fs, hf⟩ := hW.m0
  refine m_calli (va_runV (As := []) (rest := []) ⟨hx, hb, hml, hown, hts⟩ (w_X5_thrown (l := l) (H.size) hW) (cwV 0 hts (gL_law_X5_thrown.up wsL_law_in) rfl rfl rfl (by decide +kernel) ⟨Nat.le_of_ble_eq_true rfl, Nat.le_of_ble_eq_true rfl⟩) (m_preV (r := (RX5, TX5, 34)) hE hV hS hA hf rfl) rfl rfl hl.1 rfl (lv_room (by exact Nat.le_of_ble_eq_true rfl)) dL_law_1210 (room_c hc hs (by omega) (by omega))) hV hS hA (fun r3 h3 H locs hV hS hp _ => ?_)
  obtain ⟨e3, e4⟩ := hp
  rw [e3] at hV
  clear e3
  subst e4
  refine lv_iload hx hb dL_law_1213 (lv_at hl 1 rfl) ?_
  obtain ⟨hr1, hth, hval⟩ := R.s_urgencyOf _ _ _ _ _ _ _ _ _ hj hw0 hr hoc hom hW.wf
  refine lv_icmp_eq (tgt := 1220) hx hb dL_law_1215 (by decide) (fun _ => ?_) (fun z => absurd hth z)
  refine lv_iload hx hb dL_law_1220 (lv_at hl 1 rfl) ?_
  have kq := kk _ _ _ _ _ _ hV hS hW hr1 (lv_sub hl [2, 3, 4, 5, 6, 7] rfl)
  refine lv_if_ne (tgt := 1237) hx hb dL_law_1222 (by decide) (fun c9 => ?_) (fun c9 => ?_)
  · exact lv_goto (tgt := 1902) hx hb dL_law_1237 (by decide) (W.widen (by omega) (by omega) kq)
  have r0 : r = 0 := c9
  have hv := hval r0
  obtain ⟨f, hrow, hf0⟩ := hrow r0
  refine lv_aload_n hx hb dL_law_1225 rfl (lv_at hl 5 rfl) ?_
  refine lv_iconst (v := 0) hx hb dL_law_1226 (by decide) ?_
  refine m_lald hx hb hK hV 1 (i := 0) (f := f) (x := v) (by rw [k1]; exact hrow) rfl (show vp_in (nI 0) 1 from vp_in_nI (by decide) (by decide)) (by rw [← hf0]; rfl) dL_law_1227 ?_
  refine lv_iload hx hb dL_law_1228 (lv_at hl 0 rfl) ?_
  refine lv_i2l (v := (b2).toInt64) hx hb dL_law_1230 rfl ?_
  refine m_lcmp_eq (tgt := 1237) hx hb dL_law_1231 dL_law_1232 (by decide) (fun _ => ?_) (fun z => absurd hv z)
  refine lv_goto (tgt := 1902) hx hb dL_law_1237 (by decide) ?_
  exact W.widen (by omega) (by omega) kq
set_option maxRecDepth 100000 in
set_option maxHeartbeats 4000000 in
theorem law_missesOf {p : Program} {l : Launch} {e : Env} {s : State} {m : MethodId} {below : List Frame} {meth : Method} {c : Code} {b L : Nat} {xs : Nat → Int32} {D : va_G} {cs : mC} {df : Nat} {A : Nat → Prop} (C : LC p l s m c b L xs D cs df A) {Rl : Nat → KS → KS → Prop} (R : SimP Rl) {c0 m0 o1 o2 : Nat} {σ μ : KS} {h : mH} {H : Heap} {locs : List Loc} {cells slots : Nat} {Q : State → Prop} (hV : mV D h A H) (hS : va_S A s.heap H locs) (hW : DSt cs df c0 m0 o1 o2 σ μ h) {j : Nat} (hj : j < 512) (hr : Rl j σ μ) {i : Nat} (hi : i + 5 ≤ L) {ls : Array Slot} (hl : lv_has ls 9 (lawL b c0 m0 o1 o2 i)) (hc : cells + 8 ≤ 603072) (hs : slots + 400 ≤ 7223402) (kk : ∀ (σ1 μ1 : KS) (h1 : mH) (H1 : Heap) (locs1 : List Loc) (ls1 : Array Slot), mV D h1 A H1 → va_S A s.heap H1 locs1 → DSt cs df c0 m0 o1 o2 σ1 μ1 h1 → Rl (j + 1) σ1 μ1 → lv_has ls1 9 (lawL b c0 m0 o1 o2 i) → W p l e room_1 s m #[Value.ref b] below meth c H1 locs1 (cells + 8) (slots + 400) Q (F0 m 1902 ls1 [])) : W p l e room_1 s m #[Value.ref b] below meth c H locs cells slots Q (F0 m 1240 ls []) := by
  obtain ⟨hx, hb, hml, hown, hts, hX, hbl, hbA, hE, hN, hA, hfl, hL⟩ := C
  have hK := hE.1.1
  have hw0 := hW.wf
  have i1 : vp_in (nI i + 1) L := lw_in (k := 1) (by decide) hi hL
  have i2 : vp_in (nI i + 2) L := lw_in (k := 2) (by decide) hi hL
  have i3 : vp_in (nI i + 3) L := lw_in (k := 3) (by decide) hi hL
  have i4 : vp_in (nI i + 4) L := lw_in (k := 4) (by decide) hi hL
  refine lv_aload_n hx hb dL_law_1240 rfl (lv_at hl 1 rfl) ?_
  refine lv_aload_n hx hb dL_law_1241 rfl (lv_at hl 0 rfl) ?_
  refine lv_iload hx hb dL_law_1242 (lv_at hl 5 rfl) ?_
  refine lv_iconst (v := 1) hx hb dL_law_1244 (by decide) ?_
  refine lv_iadd hx hb dL_law_1245 ?_
  refine va_sld hx hb hX hbl hbA hS (i := nI i + 1) i1 dL_law_1246 ?_
  refine lv_aload_n hx hb dL_law_1247 rfl (lv_at hl 3 rfl) ?_
  refine m_calli (vx_runSW (As := [.ref c0, .int (xs (nI i + 1).toNatClampNeg), .ref o1]) (rest := []) ⟨hx, hb, hml, hown, hts⟩ (w_L_missesOf (l := l) hfl (D := D) (H.size) hW (xs (nI i + 1).toNatClampNeg) ) (vx_cwSW 3 hts (goodIn_l gL_law_L_missesOf) rfl rfl rfl (by decide +kernel) ⟨Nat.le_of_ble_eq_true rfl, Nat.le_of_ble_eq_true rfl⟩) (l_preS hN hE hV hS hA) rfl rfl hl.1 rfl (lv_room (by first | exact Nat.le_of_ble_eq_true rfl | simp [rf_cat, ct_ref, ct_int, ct_null, ct_long])) dL_law_1248 (room_c hc hs (by omega) (by omega))) hV hS hA (fun r h1 H locs hV hS hp _ => ?_)
  obtain ⟨σ1, v, hW, hrow, hoc⟩ := hp
  refine lv_istore (lv' := [(6, .int r), (0, .ref b), (1, .ref c0), (2, .ref m0), (3, .ref o1), (4, .ref o2), (5, .int (nI i))]) hx hb dL_law_1251 hl (by decide) rfl (fun ls hl => ?_)
  refine lv_aload_n hx hb dL_law_1253 rfl (lv_at hl 3 rfl) ?_
  refine lv_aload_n hx hb dL_law_1254 rfl (lv_at hl 1 rfl) ?_
  refine lv_iload hx hb dL_law_1255 (lv_at hl 6 rfl) ?_
  refine lv_iconst (v := 1) hx hb dL_law_1257 (by decide) ?_
  refine lv_iadd hx hb dL_law_1258 ?_
  refine va_sld hx hb hX hbl hbA hS (i := nI i + 1) i1 dL_law_1259 ?_
  obtain ⟨fs, hf⟩ := hW.m0
  refine m_calli (va_runV (As := [.int (xs (nI i + 1).toNatClampNeg)]) (rest := []) ⟨hx, hb, hml, hown, hts⟩ (w_X5_missesOf (l := l) (H.size) hW (xs (nI i + 1).toNatClampNeg) ) (cwV 1 hts (gL_law_X5_missesOf.up wsL_law_in) rfl rfl rfl (by decide +kernel) ⟨Nat.le_of_ble_eq_true rfl, Nat.le_of_ble_eq_true rfl⟩) (m_preV (r := (RX5, TX5, 34)) hE hV hS hA hf rfl) rfl rfl hl.1 rfl (lv_room (by exact Nat.le_of_ble_eq_true rfl)) dL_law_1260 (room_c hc hs (by omega) (by omega))) hV hS hA (fun b2 h2 H locs hV hS hp _ => ?_)
  obtain ⟨μ1, hW, k1, k2, hom⟩ := hp
  refine lv_istore (lv' := [(7, .int b2), (6, .int r), (0, .ref b), (1, .ref c0), (2, .ref m0), (3, .ref o1), (4, .ref o2), (5, .int (nI i))]) hx hb dL_law_1263 hl (by decide) rfl (fun ls hl => ?_)
  refine lv_aload_n hx hb dL_law_1265 rfl (lv_at hl 4 rfl) ?_
  obtain ⟨fs, hf⟩ := hW.m0
  refine m_calli (va_runV (As := []) (rest := []) ⟨hx, hb, hml, hown, hts⟩ (w_X5_thrown (l := l) (H.size) hW) (cwV 0 hts (gL_law_X5_thrown.up wsL_law_in) rfl rfl rfl (by decide +kernel) ⟨Nat.le_of_ble_eq_true rfl, Nat.le_of_ble_eq_true rfl⟩) (m_preV (r := (RX5, TX5, 34)) hE hV hS hA hf rfl) rfl rfl hl.1 rfl (lv_room (by exact Nat.le_of_ble_eq_true rfl)) dL_law_1266 (room_c hc hs (by omega) (by omega))) hV hS hA (fun r3 h3 H locs hV hS hp _ => ?_)
  obtain ⟨e3, e4⟩ := hp
  rw [e3] at hV
  clear e3
  subst e4
  refine lv_iload hx hb dL_law_1269 (lv_at hl 1 rfl) ?_
  obtain ⟨hr1, hth, hval⟩ := R.s_missesOf _ _ _ _ _ _ _ _ _ hj hw0 hr hoc hom hW.wf
  refine lv_icmp_eq (tgt := 1276) hx hb dL_law_1271 (by decide) (fun _ => ?_) (fun z => absurd hth z)
  refine lv_iload hx hb dL_law_1276 (lv_at hl 1 rfl) ?_
  have kq := kk _ _ _ _ _ _ hV hS hW hr1 (lv_sub hl [2, 3, 4, 5, 6, 7] rfl)
  refine lv_if_ne (tgt := 1293) hx hb dL_law_1278 (by decide) (fun c9 => ?_) (fun c9 => ?_)
  · exact lv_goto (tgt := 1902) hx hb dL_law_1293 (by decide) (W.widen (by omega) (by omega) kq)
  have r0 : r = 0 := c9
  have hv := hval r0
  obtain ⟨f, hrow, hf0⟩ := hrow r0
  refine lv_aload_n hx hb dL_law_1281 rfl (lv_at hl 5 rfl) ?_
  refine lv_iconst (v := 0) hx hb dL_law_1282 (by decide) ?_
  refine m_lald hx hb hK hV 1 (i := 0) (f := f) (x := v) (by rw [k1]; exact hrow) rfl (show vp_in (nI 0) 1 from vp_in_nI (by decide) (by decide)) (by rw [← hf0]; rfl) dL_law_1283 ?_
  refine lv_iload hx hb dL_law_1284 (lv_at hl 0 rfl) ?_
  refine lv_i2l (v := (b2).toInt64) hx hb dL_law_1286 rfl ?_
  refine m_lcmp_eq (tgt := 1293) hx hb dL_law_1287 dL_law_1288 (by decide) (fun _ => ?_) (fun z => absurd hv z)
  refine lv_goto (tgt := 1902) hx hb dL_law_1293 (by decide) ?_
  exact W.widen (by omega) (by omega) kq
set_option maxRecDepth 100000 in
set_option maxHeartbeats 4000000 in
theorem law_misses {p : Program} {l : Launch} {e : Env} {s : State} {m : MethodId} {below : List Frame} {meth : Method} {c : Code} {b L : Nat} {xs : Nat → Int32} {D : va_G} {cs : mC} {df : Nat} {A : Nat → Prop} (C : LC p l s m c b L xs D cs df A) {Rl : Nat → KS → KS → Prop} (R : SimP Rl) {c0 m0 o1 o2 : Nat} {σ μ : KS} {h : mH} {H : Heap} {locs : List Loc} {cells slots : Nat} {Q : State → Prop} (hV : mV D h A H) (hS : va_S A s.heap H locs) (hW : DSt cs df c0 m0 o1 o2 σ μ h) {j : Nat} (hj : j < 512) (hr : Rl j σ μ) {i : Nat} (hi : i + 5 ≤ L) {ls : Array Slot} (hl : lv_has ls 9 (lawL b c0 m0 o1 o2 i)) (hc : cells + 8 ≤ 603072) (hs : slots + 400 ≤ 7223402) (kk : ∀ (σ1 μ1 : KS) (h1 : mH) (H1 : Heap) (locs1 : List Loc) (ls1 : Array Slot), mV D h1 A H1 → va_S A s.heap H1 locs1 → DSt cs df c0 m0 o1 o2 σ1 μ1 h1 → Rl (j + 1) σ1 μ1 → lv_has ls1 9 (lawL b c0 m0 o1 o2 i) → W p l e room_1 s m #[Value.ref b] below meth c H1 locs1 (cells + 8) (slots + 400) Q (F0 m 1902 ls1 [])) : W p l e room_1 s m #[Value.ref b] below meth c H locs cells slots Q (F0 m 1296 ls []) := by
  obtain ⟨hx, hb, hml, hown, hts, hX, hbl, hbA, hE, hN, hA, hfl, hL⟩ := C
  have hK := hE.1.1
  have hw0 := hW.wf
  have i1 : vp_in (nI i + 1) L := lw_in (k := 1) (by decide) hi hL
  have i2 : vp_in (nI i + 2) L := lw_in (k := 2) (by decide) hi hL
  have i3 : vp_in (nI i + 3) L := lw_in (k := 3) (by decide) hi hL
  have i4 : vp_in (nI i + 4) L := lw_in (k := 4) (by decide) hi hL
  refine lv_aload_n hx hb dL_law_1296 rfl (lv_at hl 1 rfl) ?_
  obtain ⟨fs, hf⟩ := hW.c0
  refine m_calli (va_runV (As := []) (rest := []) ⟨hx, hb, hml, hown, hts⟩ (w_X4_misses (l := l) (H.size) hW ) (cwV 0 hts (gL_law_X4_misses.up wsL_law_in) rfl rfl rfl (by decide +kernel) ⟨Nat.le_of_ble_eq_true rfl, Nat.le_of_ble_eq_true rfl⟩) (m_preV (r := (RX4, TX4, 11)) hE hV hS hA hf rfl) rfl rfl hl.1 rfl (lv_room (by exact Nat.le_of_ble_eq_true rfl)) dL_law_1297 (room_c hc hs (by omega) (by omega))) hV hS hA (fun r h1 H locs hV hS hp _ => ?_)
  obtain ⟨e3, e4⟩ := hp
  rw [e3] at hV
  clear e3
  subst e4
  refine lv_aload_n hx hb dL_law_1300 rfl (lv_at hl 2 rfl) ?_
  obtain ⟨fs, hf⟩ := hW.m0
  refine m_calli (va_runV (As := []) (rest := [.int ((sumI (fun t => kI σ 41 t) (kN σ 62 2)))]) ⟨hx, hb, hml, hown, hts⟩ (w_X5_misses (l := l) (H.size) hW  ) (cwV 0 hts (gL_law_X5_misses.up wsL_law_in) rfl rfl rfl (by decide +kernel) ⟨Nat.le_of_ble_eq_true rfl, Nat.le_of_ble_eq_true rfl⟩) (m_preV (r := (RX5, TX5, 34)) hE hV hS hA hf rfl) rfl rfl hl.1 rfl (lv_room (by exact Nat.le_of_ble_eq_true rfl)) dL_law_1301 (room_c hc hs (by omega) (by omega))) hV hS hA (fun b2 h2 H locs hV hS hp _ => ?_)
  obtain ⟨μ1, hW, k1, k2, hom⟩ := hp
  obtain ⟨rfl, rfl⟩ := hom
  refine lv_icmp_eq (tgt := 1902) hx hb dL_law_1304 (by decide) (fun _ => ?_) (fun z => absurd (R.e_misses _ _ _ hj hw0 hr) z)
  exact W.widen (by omega) (by omega) (kk _ _ _ _ _ _ hV hS hW (R.s_th _ _ _ hr) (lv_sub hl [0, 1, 2, 3, 4, 5] rfl))
set_option maxRecDepth 100000 in
set_option maxHeartbeats 4000000 in
theorem law_take {p : Program} {l : Launch} {e : Env} {s : State} {m : MethodId} {below : List Frame} {meth : Method} {c : Code} {b L : Nat} {xs : Nat → Int32} {D : va_G} {cs : mC} {df : Nat} {A : Nat → Prop} (C : LC p l s m c b L xs D cs df A) {Rl : Nat → KS → KS → Prop} (R : SimP Rl) {c0 m0 o1 o2 : Nat} {σ μ : KS} {h : mH} {H : Heap} {locs : List Loc} {cells slots : Nat} {Q : State → Prop} (hV : mV D h A H) (hS : va_S A s.heap H locs) (hW : DSt cs df c0 m0 o1 o2 σ μ h) {j : Nat} (hj : j < 512) (hr : Rl j σ μ) {i : Nat} (hi : i + 5 ≤ L) {ls : Array Slot} (hl : lv_has ls 9 (lawL b c0 m0 o1 o2 i)) (hc : cells + 8 ≤ 603072) (hs : slots + 400 ≤ 7223402) (kk : ∀ (σ1 μ1 : KS) (h1 : mH) (H1 : Heap) (locs1 : List Loc) (ls1 : Array Slot), mV D h1 A H1 → va_S A s.heap H1 locs1 → DSt cs df c0 m0 o1 o2 σ1 μ1 h1 → Rl (j + 1) σ1 μ1 → lv_has ls1 9 (lawL b c0 m0 o1 o2 i) → W p l e room_1 s m #[Value.ref b] below meth c H1 locs1 (cells + 8) (slots + 400) Q (F0 m 1902 ls1 [])) : W p l e room_1 s m #[Value.ref b] below meth c H locs cells slots Q (F0 m 1309 ls []) := by
  obtain ⟨hx, hb, hml, hown, hts, hX, hbl, hbA, hE, hN, hA, hfl, hL⟩ := C
  have hK := hE.1.1
  have hw0 := hW.wf
  have i1 : vp_in (nI i + 1) L := lw_in (k := 1) (by decide) hi hL
  have i2 : vp_in (nI i + 2) L := lw_in (k := 2) (by decide) hi hL
  have i3 : vp_in (nI i + 3) L := lw_in (k := 3) (by decide) hi hL
  have i4 : vp_in (nI i + 4) L := lw_in (k := 4) (by decide) hi hL
  refine lv_aload_n hx hb dL_law_1309 rfl (lv_at hl 1 rfl) ?_
  refine lv_aload_n hx hb dL_law_1310 rfl (lv_at hl 0 rfl) ?_
  refine lv_iload hx hb dL_law_1311 (lv_at hl 5 rfl) ?_
  refine lv_iconst (v := 1) hx hb dL_law_1313 (by decide) ?_
  refine lv_iadd hx hb dL_law_1314 ?_
  refine va_sld hx hb hX hbl hbA hS (i := nI i + 1) i1 dL_law_1315 ?_
  refine lv_aload_n hx hb dL_law_1316 rfl (lv_at hl 0 rfl) ?_
  refine lv_iload hx hb dL_law_1317 (lv_at hl 5 rfl) ?_
  refine lv_iconst (v := 2) hx hb dL_law_1319 (by decide) ?_
  refine lv_iadd hx hb dL_law_1320 ?_
  refine va_sld hx hb hX hbl hbA hS (i := nI i + 2) i2 dL_law_1321 ?_
  refine lv_aload_n hx hb dL_law_1322 rfl (lv_at hl 3 rfl) ?_
  refine m_calli (vx_runSW (As := [.ref c0, .int (xs (nI i + 1).toNatClampNeg), .int (xs (nI i + 2).toNatClampNeg), .ref o1]) (rest := []) ⟨hx, hb, hml, hown, hts⟩ (w_L_take (l := l) hfl (D := D) (H.size) hW (xs (nI i + 1).toNatClampNeg) (xs (nI i + 2).toNatClampNeg) (R.hzL_take _ _ _ hj hw0 hr)) (vx_cwSW 4 hts (goodIn_l gL_law_L_take) rfl rfl rfl (by decide +kernel) ⟨Nat.le_of_ble_eq_true rfl, Nat.le_of_ble_eq_true rfl⟩) (l_preS hN hE hV hS hA) rfl rfl hl.1 rfl (lv_room (by first | exact Nat.le_of_ble_eq_true rfl | simp [rf_cat, ct_ref, ct_int, ct_null, ct_long])) dL_law_1323 (room_c hc hs (by omega) (by omega))) hV hS hA (fun r h1 H locs hV hS hp _ => ?_)
  obtain ⟨σ1, v, hW, hrow, hoc⟩ := hp
  refine lv_istore (lv' := [(6, .int r), (0, .ref b), (1, .ref c0), (2, .ref m0), (3, .ref o1), (4, .ref o2), (5, .int (nI i))]) hx hb dL_law_1326 hl (by decide) rfl (fun ls hl => ?_)
  refine lv_aload_n hx hb dL_law_1328 rfl (lv_at hl 3 rfl) ?_
  refine lv_aload_n hx hb dL_law_1329 rfl (lv_at hl 1 rfl) ?_
  refine lv_iload hx hb dL_law_1330 (lv_at hl 6 rfl) ?_
  refine lv_iconst (v := 1) hx hb dL_law_1332 (by decide) ?_
  refine lv_iadd hx hb dL_law_1333 ?_
  refine va_sld hx hb hX hbl hbA hS (i := nI i + 1) i1 dL_law_1334 ?_
  refine lv_aload_n hx hb dL_law_1335 rfl (lv_at hl 1 rfl) ?_
  refine lv_iload hx hb dL_law_1336 (lv_at hl 6 rfl) ?_
  refine lv_iconst (v := 2) hx hb dL_law_1338 (by decide) ?_
  refine lv_iadd hx hb dL_law_1339 ?_
  refine va_sld hx hb hX hbl hbA hS (i := nI i + 2) i2 dL_law_1340 ?_
  obtain ⟨fs, hf⟩ := hW.m0
  refine m_calli (va_runV (As := [.int (xs (nI i + 1).toNatClampNeg), .int (xs (nI i + 2).toNatClampNeg)]) (rest := []) ⟨hx, hb, hml, hown, hts⟩ (w_X5_take (l := l) (H.size) hW (xs (nI i + 1).toNatClampNeg) (xs (nI i + 2).toNatClampNeg) ) (cwV 2 hts (gL_law_X5_take.up wsL_law_in) rfl rfl rfl (by decide +kernel) ⟨Nat.le_of_ble_eq_true rfl, Nat.le_of_ble_eq_true rfl⟩) (m_preV (r := (RX5, TX5, 34)) hE hV hS hA hf rfl) rfl rfl hl.1 rfl (lv_room (by exact Nat.le_of_ble_eq_true rfl)) dL_law_1341 (room_c hc hs (by omega) (by omega))) hV hS hA (fun b2 h2 H locs hV hS hp _ => ?_)
  obtain ⟨μ1, hW, k1, k2, hom⟩ := hp
  refine lv_istore (lv' := [(7, .int b2), (6, .int r), (0, .ref b), (1, .ref c0), (2, .ref m0), (3, .ref o1), (4, .ref o2), (5, .int (nI i))]) hx hb dL_law_1344 hl (by decide) rfl (fun ls hl => ?_)
  refine lv_aload_n hx hb dL_law_1346 rfl (lv_at hl 4 rfl) ?_
  obtain ⟨fs, hf⟩ := hW.m0
  refine m_calli (va_runV (As := []) (rest := []) ⟨hx, hb, hml, hown, hts⟩ (w_X5_thrown (l := l) (H.size) hW) (cwV 0 hts (gL_law_X5_thrown.up wsL_law_in) rfl rfl rfl (by decide +kernel) ⟨Nat.le_of_ble_eq_true rfl, Nat.le_of_ble_eq_true rfl⟩) (m_preV (r := (RX5, TX5, 34)) hE hV hS hA hf rfl) rfl rfl hl.1 rfl (lv_room (by exact Nat.le_of_ble_eq_true rfl)) dL_law_1347 (room_c hc hs (by omega) (by omega))) hV hS hA (fun r3 h3 H locs hV hS hp _ => ?_)
  obtain ⟨e3, e4⟩ := hp
  rw [e3] at hV
  clear e3
  subst e4
  refine lv_iload hx hb dL_law_1350 (lv_at hl 1 rfl) ?_
  obtain ⟨hr1, hth, hval⟩ := R.s_take _ _ _ _ _ _ _ _ _ _ hj hw0 hr hoc hom hW.wf
  refine lv_icmp_eq (tgt := 1357) hx hb dL_law_1352 (by decide) (fun _ => ?_) (fun z => absurd hth z)
  refine lv_iload hx hb dL_law_1357 (lv_at hl 1 rfl) ?_
  have kq := kk _ _ _ _ _ _ hV hS hW hr1 (lv_sub hl [2, 3, 4, 5, 6, 7] rfl)
  refine lv_if_ne (tgt := 1381) hx hb dL_law_1359 (by decide) (fun c9 => ?_) (fun c9 => ?_)
  · exact lv_goto (tgt := 1902) hx hb dL_law_1381 (by decide) (W.widen (by omega) (by omega) kq)
  have r0 : r = 0 := c9
  have hv := hval r0
  obtain ⟨f, hrow, hf0⟩ := hrow r0
  refine lv_aload_n hx hb dL_law_1362 rfl (lv_at hl 5 rfl) ?_
  refine lv_iconst (v := 0) hx hb dL_law_1363 (by decide) ?_
  refine m_lald hx hb hK hV 1 (i := 0) (f := f) (x := v) (by rw [k1]; exact hrow) rfl (show vp_in (nI 0) 1 from vp_in_nI (by decide) (by decide)) (by rw [← hf0]; rfl) dL_law_1364 ?_
  refine lv_iload hx hb dL_law_1365 (lv_at hl 0 rfl) ?_
  refine lv_if_eq (tgt := 1374) hx hb dL_law_1367 (by decide) (fun c8 => ?_) (fun c8 => ?_)
  · rw [if_pos c8] at hv
    refine lv_lconst (v := 0) hx hb dL_law_1374 (by decide) ?_
    refine m_lcmp_eq (tgt := 1381) hx hb dL_law_1375 dL_law_1376 (by decide) (fun _ => ?_) (fun z => absurd hv z)
    exact lv_goto (tgt := 1902) hx hb dL_law_1381 (by decide) (W.widen (by omega) (by omega) kq)
  · rw [if_neg c8] at hv
    refine lv_lconst (v := 1) hx hb dL_law_1370 (by decide) ?_
    refine lv_goto (tgt := 1375) hx hb dL_law_1371 (by decide) ?_
    refine m_lcmp_eq (tgt := 1381) hx hb dL_law_1375 dL_law_1376 (by decide) (fun _ => ?_) (fun z => absurd hv z)
    exact lv_goto (tgt := 1902) hx hb dL_law_1381 (by decide) (W.widen (by omega) (by omega) kq)
