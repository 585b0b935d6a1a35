set_option maxHeartbeats 4000000 in
set_option maxRecDepth 100000 in
theorem c_X4_setLimit {l : Launch} (hfl : l.stackTraces = false) {D : va_G} {cs : mC} {df : Nat} {P : Nat → Prop} {h0 : mH} {L : KL} {σ : KS} {hh : mH} (sz : Nat) (hC : CRep cs df P h0 L σ hh) (x0 : Int32) : vx_Met l yX4_setLimit wsX4_setLimit ({ frames := 6, cells := 1, slots := 6, locals := 90 }) (mPre [.ref (L.1 0 0), .int x0] D cs df hh sz) (va_Qi ((fun (r : Int32) (h1 : mH) => CRep cs df P h0 L (sI σ 0 (va_up (kI σ 0) 0 x0)) h1 ∧ r = kI σ 0 0 ∧ 1 ≤ x0 ∧ x0 ≤ 99)) (mB D hh sz) (mA hh sz)) (mX D hh sz (fun E h1 => E = "java/lang/IllegalArgumentException" ∧ h1 = hh ∧ (x0 < 1 ∨ 99 < x0))) 1 6 (mA hh sz) := by
  refine vx_ofW (cc := cX4_setLimit) (maxL := 3) (ret := (some .int)) (by decide) rfl ?_
  intro p e s m args below meth c s₁ B0 hml hnx hv
  obtain ⟨hargs, hsz, hV, hE⟩ := hv
  subst hsz
  have hx := B0.exec
  have hb := B0.bytes
  have hr := B0.returns
  have hlocks := B0.notSynchronized
  have hts := atoms_spec (ws := wsX4_setLimit) B0.pre
  have hown : s.vm.findClass RX4 = some m.cls := findClass_of_methodNamed B0.named
  have hK := hE.1.1
  have hA : ∀ q : Nat, s.heap.size ≤ q → mA hh s.heap.size q := mA.top
  have hS : va_S (mA hh s.heap.size) s.heap s.heap [] := va_S.rf
  have kc62 : (Cond.classLink RX4 62 "java/lang/IllegalArgumentException").before args s = true := hts _ (by decide +kernel)
  have hi_X4 : ∀ w ∈ u_ws RX4 TX4 11, w ∈ wsX4_setLimit := by decide +kernel
  have k36 : (Cond.fieldLink RX4 36 "TaskKernel" "heatLimit" "I").before args s = true := hts _ (by decide +kernel)
  have hl := lv_entry ([.ref (L.1 0 0), .int x0]) (n := 3) (by first | exact Nat.le_of_ble_eq_true rfl | simp [lg_sl, rf_cat, Value.category])
  have hent := lg_entry_eq m ([.ref (L.1 0 0), .int x0]) 3
  rw [← hargs] at hent
  rw [hent]
  generalize (lg_sl ([.ref (L.1 0 0), .int x0]) ++ List.replicate (3 - (lg_sl ([.ref (L.1 0 0), .int x0])).length) Slot.unset).toArray = ls at hl ⊢
  replace hl : lv_has ls 3 [(0, .ref (L.1 0 0)), (1, .int x0)] := hl
  refine lv_iload_n hx hb dX4_setLimit_0 rfl (lv_at hl 1 rfl) ?_
  refine lv_iconst (v := 1) hx hb dX4_setLimit_1 (by decide) ?_
  refine lv_icmp_lt (tgt := 11) hx hb dX4_setLimit_2 (by decide) (fun c2 => ?_) (fun c2 => ?_)
  · exact m_throw hx hb hfl (own := RX4) (cls := "java/lang/IllegalArgumentException") (text := "the limit is out of range") (names := ["java/lang/RuntimeException", "java/lang/Exception"]) (ik := 62) (is := 83) (ic := 66) hown (by decide) (by decide) kc62 (hts _ (by decide +kernel)) (hE.1.2.2.2.1 _ (List.mem_of_getElem? (i := 3) rfl)) (m_hat hE (by decide +kernel) hts) (by decide +kernel) hE hV hS (by rw [hml]; exact hl.1) dX4_setLimit_11 dX4_setLimit_14 dX4_setLimit_15 dX4_setLimit_17 dX4_setLimit_20 hnx (by decide) (by decide) (by decide) (by decide) hlocks (⟨rfl, rfl, Or.inl c2⟩) (by decide) (by decide)
  · refine lv_iload_n hx hb dX4_setLimit_5 rfl (lv_at hl 1 rfl) ?_
    refine lv_bipush (v := 99) hx hb dX4_setLimit_6 (by decide) ?_
    refine lv_icmp_le (tgt := 21) hx hb dX4_setLimit_8 (by decide) (fun c8 => ?_) (fun c8 => ?_)
    · refine lv_aload_n hx hb dX4_setLimit_21 rfl (lv_at hl 0 rfl) ?_
      refine m_get (C := RX4) (T := TX4) (N := 11) hx hb hts hi_X4 hown hK hV 5 (v := .int (kI σ 0 0)) (g_kern5 hC rfl) rfl (by decide) k36 (fun _ h9 => h9) dX4_setLimit_22 ?_
      refine lv_istore_n (lv' := [(2, .int (kI σ 0 0)), (0, .ref (L.1 0 0)), (1, .int x0)]) hx hb dX4_setLimit_25 rfl hl (by decide) rfl (fun ls hl => ?_)
      refine lv_aload_n hx hb dX4_setLimit_26 rfl (lv_at hl 1 rfl) ?_
      refine lv_iload_n hx hb dX4_setLimit_27 rfl (lv_at hl 2 rfl) ?_
      refine m_put (C := RX4) (T := TX4) (N := 11) (v := .int x0) hx hb hts hi_X4 tyX4 tyX4_ok nmX4 hown hK hV hS 5 (p_kern5 hC rfl x0) rfl (by decide) k36 (fun _ h9 => h9) rfl (tyX4_ok 5 (by decide)) rfl rfl dX4_setLimit_28 (fun h H locs hV hS hC => ?_)
      refine lv_iload_n hx hb dX4_setLimit_31 rfl (lv_at hl 0 rfl) ?_
      refine W.widen (k := 1) (n := 6) (by decide) (by decide) ?_
      exact vx_ret (m_iret (v := (kI σ 0 0)) hx hb hr hlocks hV hS (⟨hC, rfl, Int32.not_lt.mp c2, c8⟩) dX4_setLimit_32)
    · exact m_throw hx hb hfl (own := RX4) (cls := "java/lang/IllegalArgumentException") (text := "the limit is out of range") (names := ["java/lang/RuntimeException", "java/lang/Exception"]) (ik := 62) (is := 83) (ic := 66) hown (by decide) (by decide) kc62 (hts _ (by decide +kernel)) (hE.1.2.2.2.1 _ (List.mem_of_getElem? (i := 3) rfl)) (m_hat hE (by decide +kernel) hts) (by decide +kernel) hE hV hS (by rw [hml]; exact hl.1) dX4_setLimit_11 dX4_setLimit_14 dX4_setLimit_15 dX4_setLimit_17 dX4_setLimit_20 hnx (by decide) (by decide) (by decide) (by decide) hlocks (⟨rfl, rfl, Or.inr (Int32.not_le.mp c8)⟩) (by decide) (by decide)
