set_option maxHeartbeats 4000000 in
set_option maxRecDepth 100000 in
theorem c_L_addCore {l : Launch} (hfl : l.stackTraces = false) {D : va_G} {cs : mC} {df : Nat} {P : Nat → Prop} {L : KL} {σ : KS} {hh : mH} (sz : Nat) (hC : CRep cs df P hh L σ hh) (o : Nat) (f : Nat → Int64) (ho : hh o = some (.inl (cs.2.1, 1, .inr (.inl f)))) (hoP : ¬ P o) (x0 : Int32) : Met l yL_addCore (wsL_addCore ++ lxW) ({ frames := 8, cells := 2, slots := 203, locals := 213 }) (lPre [.ref (L 0 0), .int x0, .ref o] D cs df hh sz) (va_Qi (fun (r : Int32) (h1 : mH) => (r = 0 ∧ ∃ (v : Int32) (h9 : mH), ((1 ≤ x0 ∧ x0 ≤ 4) ∧ kN σ 62 0 < 3 ∧ (∃ L1 : KL, L1 0 0 = L 0 0 ∧ CRep cs df P hh L1 (coreS σ x0) h9) ∧ v = nI (kN σ 62 0)) ∧ oL cs h1 o v.toInt64 ∧ ∀ a, a ≠ o → h1 a = h9 a) ∨ (r = 1 ∧ (h1 = hh ∧ ("java/lang/IllegalArgumentException" = "java/lang/IllegalArgumentException" ∧ (x0 < 1 ∨ 4 < x0) ∨ "java/lang/IllegalArgumentException" = "java/lang/IllegalStateException" ∧ ¬ (x0 < 1 ∨ 4 < x0) ∧ ¬ kN σ 62 0 < 3))) ∨ (r = 2 ∧ (h1 = hh ∧ ("java/lang/IllegalStateException" = "java/lang/IllegalArgumentException" ∧ (x0 < 1 ∨ 4 < x0) ∨ "java/lang/IllegalStateException" = "java/lang/IllegalStateException" ∧ ¬ (x0 < 1 ∨ 4 < x0) ∧ ¬ kN σ 62 0 < 3)))) (mB D hh sz) (mA hh sz)) 2 203 (mA hh sz) := by
  refine va_MetW (cc := cL_addCore) (maxL := 4) (ret := (some .int)) (hh := [(0, 9, 12, 13), (0, 9, 15, 15)]) (by decide) rfl ?_
  intro p e s m args below meth c s₁ B0 hml hv
  obtain ⟨hargs, ⟨hsz, hV, hE⟩, hN⟩ := hv
  subst hsz
  have hx := B0.exec
  have hb := B0.bytes
  have hr := B0.returns
  have hlocks := B0.notSynchronized
  have htsE := atoms_spec (ws := wsL_addCore ++ lxW) B0.pre
  have hts : ∀ w ∈ wsL_addCore, w.before args s = true := fun w h => htsE w (List.mem_append_left _ h)
  have hown : s.vm.findClass RL = some m.cls := findClass_of_methodNamed B0.named
  have hK := hE.1.1
  have hA : ∀ q : Nat, s.heap.size ≤ q → mA hh s.heap.size q := mA.top
  have hS : va_S (mA hh s.heap.size) s.heap s.heap [] := va_S.rf
  have htab : c.exceptionTable.toList = tableOf [(0, 9, 12, 13), (0, 9, 15, 15)] := vx_table (x := objectInit) B0 (hts (.codeWith yL_addCore cL_addCore 4 (some .int) [(0, 9, 12, 13), (0, 9, 15, 15)]) (by decide +kernel))
  have hl := lv_entry ([.ref (L 0 0), .int x0, .ref o]) (n := 4) (by exact Nat.le_of_ble_eq_true rfl)
  have hent := lg_entry_eq m ([.ref (L 0 0), .int x0, .ref o]) 4
  rw [← hargs] at hent
  rw [hent]
  generalize (lg_sl ([.ref (L 0 0), .int x0, .ref o]) ++ List.replicate (4 - (lg_sl ([.ref (L 0 0), .int x0, .ref o])).length) Slot.unset).toArray = ls at hl ⊢
  replace hl : lv_has ls 4 [(0, .ref (L 0 0)), (1, .int x0), (2, .ref o)] := hl
  refine lv_aload_n hx hb dL_addCore_0 rfl (lv_at hl 2 rfl) ?_
  refine lv_iconst (v := 0) hx hb dL_addCore_1 (by decide) ?_
  refine lv_aload_n hx hb dL_addCore_2 rfl (lv_at hl 0 rfl) ?_
  refine lv_iload_n hx hb dL_addCore_3 rfl (lv_at hl 1 rfl) ?_
  refine m_xcalli (vx_runV (As := [.int x0]) (rest := [.int 0, .ref o]) ⟨hx, hb, hml, hown, hts⟩ (c_X4_addCore (l := l) hfl (s.heap.size) hC x0 ) (cwV 1 hts gL_addCore_X4_addCore rfl rfl rfl (by decide +kernel) ⟨by decide, by decide⟩) (m_preV (r := (RX4, TX4, 11)) hE hV hS hA (hC.at (k := 0) (i := 0) rfl) rfl) rfl rfl hl.1 rfl (lv_room (by exact Nat.le_of_ble_eq_true rfl)) dL_addCore_4 ⟨by decide, by decide⟩) hV hS hA (fun E ce q9 h1 H locs hV hS hxp _ g7 g8 g9 => ?_) (fun r h1 H locs hV hS hp _ => ?_)
  · have hE9 : E = "java/lang/IllegalArgumentException" ∨ E = "java/lang/IllegalStateException" := hxp.2.elim (fun z => Or.inl z.1) (fun z => Or.inr z.1)
    rcases hE9 with rfl | rfl
    · refine vx_catch (name := "java/lang/IllegalArgumentException") hown [] ⟨0, 9, 12, 13⟩ [⟨0, 9, 15, 15⟩] htab (fun _ z => nomatch z) (by decide) (by decide) (htsE (.classLink RL 13 "java/lang/IllegalArgumentException") (List.mem_append_right _ (by decide +kernel))) (va_Nw.use rfl (hE.1.2.2.2.2.2.2.2.2 (.castable "java/lang/IllegalArgumentException" "java/lang/IllegalArgumentException") (by decide +kernel))) g7 g8 g9 ?_
      refine lv_astore_n (lv' := [(3, .ref q9), (0, .ref (L 0 0)), (1, .int x0), (2, .ref o)]) hx hb dL_addCore_12 rfl hl (by decide) rfl (fun ls hl => ?_)
      refine lv_iconst (v := 1) hx hb dL_addCore_13 (by decide) ?_
      exact m_iret (v := 1) hx hb hr hlocks hV hS (Or.inr (Or.inl ⟨rfl, hxp⟩)) dL_addCore_14
    · refine vx_catch (name := "java/lang/IllegalStateException") hown [⟨0, 9, 12, 13⟩] ⟨0, 9, 15, 15⟩ [] htab (List.forall_mem_cons.mpr ⟨Or.inr ⟨by decide, "java/lang/IllegalArgumentException", htsE (.classLink RL 13 "java/lang/IllegalArgumentException") (List.mem_append_right _ (by decide +kernel)), hN ("java/lang/IllegalStateException", "java/lang/IllegalArgumentException") (List.mem_of_getElem? (i := 0) rfl)⟩, (fun _ z => nomatch z)⟩) (by decide) (by decide) (htsE (.classLink RL 15 "java/lang/IllegalStateException") (List.mem_append_right _ (by decide +kernel))) (va_Nw.use rfl (hE.1.2.2.2.2.2.2.2.2 (.castable "java/lang/IllegalStateException" "java/lang/IllegalStateException") (by decide +kernel))) g7 g8 g9 ?_
      refine lv_astore_n (lv' := [(3, .ref q9), (0, .ref (L 0 0)), (1, .int x0), (2, .ref o)]) hx hb dL_addCore_15 rfl hl (by decide) rfl (fun ls hl => ?_)
      refine lv_iconst (v := 2) hx hb dL_addCore_16 (by decide) ?_
      exact m_iret (v := 2) hx hb hr hlocks hV hS (Or.inr (Or.inr (⟨rfl, hxp⟩))) dL_addCore_17
  · have ho1 : h1 o = some (.inl (cs.2.1, 1, .inr (.inl f))) := by
      rcases hp with ⟨_, _, ⟨_, _, k9⟩, _⟩
      exact (k9.out hoP).trans ho
    refine lv_i2l (v := r.toInt64) hx hb dL_addCore_7 rfl ?_
    refine m_last (Rp := fun h8 => h8 = mu h1 o (.inl (cs.2.1, 1, .inr (.inl (vp_updL f (0 : Int32).toNatClampNeg r.toInt64))))) hx hb hK hV hS 1 (i := 0) ⟨ho1, rfl⟩ rfl (show vp_in (nI 0) 1 from vp_in_nI (by decide) (by decide)) dL_addCore_8 (fun h8 H locs hV hS e8 => ?_)
    refine lv_goto (tgt := 18) hx hb dL_addCore_9 (by decide) ?_
    refine lv_iconst (v := 0) hx hb dL_addCore_18 (by decide) ?_
    exact m_iret (v := 0) hx hb hr hlocks hV hS (Or.inl ⟨rfl, r, h1, hp, ⟨_, by rw [e8]; exact mu_s _ _ _, rfl⟩, fun a ha => by rw [e8]; exact mu_n ha⟩) dL_addCore_19
set_option maxHeartbeats 4000000 in
set_option maxRecDepth 100000 in
theorem c_L_setLimit {l : Launch} (hfl : l.stackTraces = false) {D : va_G} {cs : mC} {df : Nat} {P : Nat → Prop} {L : KL} {σ : KS} {hh : mH} (sz : Nat) (hC : CRep cs df P hh L σ hh) (o : Nat) (f : Nat → Int64) (ho : hh o = some (.inl (cs.2.1, 1, .inr (.inl f)))) (hoP : ¬ P o) (x0 : Int32) : Met l yL_setLimit (wsL_setLimit ++ lxW) ({ frames := 7, cells := 1, slots := 6, locals := 112 }) (lPre [.ref (L 0 0), .int x0, .ref o] D cs df hh sz) (va_Qi (fun (r : Int32) (h1 : mH) => (r = 0 ∧ ∃ (v : Int32) (h9 : mH), (CRep cs df P hh L (sI σ 0 (va_up (kI σ 0) 0 x0)) h9 ∧ v = kI σ 0 0 ∧ 1 ≤ x0 ∧ x0 ≤ 99) ∧ oL cs h1 o v.toInt64 ∧ ∀ a, a ≠ o → h1 a = h9 a) ∨ (r = 1 ∧ ("java/lang/IllegalArgumentException" = "java/lang/IllegalArgumentException" ∧ h1 = hh ∧ (x0 < 1 ∨ 99 < x0)))) (mB D hh sz) (mA hh sz)) 1 6 (mA hh sz) := by
  refine va_MetW (cc := cL_setLimit) (maxL := 4) (ret := (some .int)) (hh := [(0, 9, 12, 13)]) (by decide) rfl ?_
  intro p e s m args below meth c s₁ B0 hml hv
  obtain ⟨hargs, ⟨hsz, hV, hE⟩, hN⟩ := hv
  subst hsz
  have hx := B0.exec
  have hb := B0.bytes
  have hr := B0.returns
  have hlocks := B0.notSynchronized
  have htsE := atoms_spec (ws := wsL_setLimit ++ lxW) B0.pre
  have hts : ∀ w ∈ wsL_setLimit, w.before args s = true := fun w h => htsE w (List.mem_append_left _ h)
  have hown : s.vm.findClass RL = some m.cls := findClass_of_methodNamed B0.named
  have hK := hE.1.1
  have hA : ∀ q : Nat, s.heap.size ≤ q → mA hh s.heap.size q := mA.top
  have hS : va_S (mA hh s.heap.size) s.heap s.heap [] := va_S.rf
  have htab : c.exceptionTable.toList = tableOf [(0, 9, 12, 13)] := vx_table (x := objectInit) B0 (hts (.codeWith yL_setLimit cL_setLimit 4 (some .int) [(0, 9, 12, 13)]) (by decide +kernel))
  have hl := lv_entry ([.ref (L 0 0), .int x0, .ref o]) (n := 4) (by exact Nat.le_of_ble_eq_true rfl)
  have hent := lg_entry_eq m ([.ref (L 0 0), .int x0, .ref o]) 4
  rw [← hargs] at hent
  rw [hent]
  generalize (lg_sl ([.ref (L 0 0), .int x0, .ref o]) ++ List.replicate (4 - (lg_sl ([.ref (L 0 0), .int x0, .ref o])).length) Slot.unset).toArray = ls at hl ⊢
  replace hl : lv_has ls 4 [(0, .ref (L 0 0)), (1, .int x0), (2, .ref o)] := hl
  refine lv_aload_n hx hb dL_setLimit_0 rfl (lv_at hl 2 rfl) ?_
  refine lv_iconst (v := 0) hx hb dL_setLimit_1 (by decide) ?_
  refine lv_aload_n hx hb dL_setLimit_2 rfl (lv_at hl 0 rfl) ?_
  refine lv_iload_n hx hb dL_setLimit_3 rfl (lv_at hl 1 rfl) ?_
  refine m_xcalli (vx_runV (As := [.int x0]) (rest := [.int 0, .ref o]) ⟨hx, hb, hml, hown, hts⟩ (c_X4_setLimit (l := l) hfl (s.heap.size) hC x0 ) (cwV 1 hts gL_setLimit_X4_setLimit rfl rfl rfl (by decide +kernel) ⟨by decide, by decide⟩) (m_preV (r := (RX4, TX4, 11)) hE hV hS hA (hC.at (k := 0) (i := 0) rfl) rfl) rfl rfl hl.1 rfl (lv_room (by exact Nat.le_of_ble_eq_true rfl)) dL_setLimit_4 ⟨by decide, by decide⟩) hV hS hA (fun E ce q9 h1 H locs hV hS hxp _ g7 g8 g9 => ?_) (fun r h1 H locs hV hS hp _ => ?_)
  · have hE9 : E = "java/lang/IllegalArgumentException" := hxp.1
    rcases hE9 with rfl
    refine vx_catch (name := "java/lang/IllegalArgumentException") hown [] ⟨0, 9, 12, 13⟩ [] htab (fun _ z => nomatch z) (by decide) (by decide) (htsE (.classLink RL 13 "java/lang/IllegalArgumentException") (List.mem_append_right _ (by decide +kernel))) (va_Nw.use rfl (hE.1.2.2.2.2.2.2.2.2 (.castable "java/lang/IllegalArgumentException" "java/lang/IllegalArgumentException") (by decide +kernel))) g7 g8 g9 ?_
    refine lv_astore_n (lv' := [(3, .ref q9), (0, .ref (L 0 0)), (1, .int x0), (2, .ref o)]) hx hb dL_setLimit_12 rfl hl (by decide) rfl (fun ls hl => ?_)
    refine lv_iconst (v := 1) hx hb dL_setLimit_13 (by decide) ?_
    exact m_iret (v := 1) hx hb hr hlocks hV hS (Or.inr (⟨rfl, hxp⟩)) dL_setLimit_14
  · have ho1 : h1 o = some (.inl (cs.2.1, 1, .inr (.inl f))) := by
      rcases hp with ⟨k9, _⟩
      exact (k9.out hoP).trans ho
    refine lv_i2l (v := r.toInt64) hx hb dL_setLimit_7 rfl ?_
    refine m_last (Rp := fun h8 => h8 = mu h1 o (.inl (cs.2.1, 1, .inr (.inl (vp_updL f (0 : Int32).toNatClampNeg r.toInt64))))) hx hb hK hV hS 1 (i := 0) ⟨ho1, rfl⟩ rfl (show vp_in (nI 0) 1 from vp_in_nI (by decide) (by decide)) dL_setLimit_8 (fun h8 H locs hV hS e8 => ?_)
    refine lv_goto (tgt := 15) hx hb dL_setLimit_9 (by decide) ?_
    refine lv_iconst (v := 0) hx hb dL_setLimit_15 (by decide) ?_
    exact m_iret (v := 0) hx hb hr hlocks hV hS (Or.inl ⟨rfl, r, h1, hp, ⟨_, by rw [e8]; exact mu_s _ _ _, rfl⟩, fun a ha => by rw [e8]; exact mu_n ha⟩) dL_setLimit_16
set_option maxHeartbeats 4000000 in
set_option maxRecDepth 100000 in
theorem c_L_setCap {l : Launch} (hfl : l.stackTraces = false) {D : va_G} {cs : mC} {df : Nat} {P : Nat → Prop} {L : KL} {σ : KS} {hh : mH} (sz : Nat) (hC : CRep cs df P hh L σ hh) (o : Nat) (f : Nat → Int64) (ho : hh o = some (.inl (cs.2.1, 1, .inr (.inl f)))) (hoP : ¬ P o) (x0 : Int32) : Met l yL_setCap (wsL_setCap ++ lxW) ({ frames := 7, cells := 1, slots := 6, locals := 112 }) (lPre [.ref (L 0 0), .int x0, .ref o] D cs df hh sz) (va_Qi (fun (r : Int32) (h1 : mH) => (r = 0 ∧ ∃ (v : Int32) (h9 : mH), (CRep cs df P hh L (sI σ 1 (va_up (kI σ 1) 0 x0)) h9 ∧ v = kI σ 1 0 ∧ 0 ≤ x0 ∧ x0 ≤ 12) ∧ oL cs h1 o v.toInt64 ∧ ∀ a, a ≠ o → h1 a = h9 a) ∨ (r = 1 ∧ ("java/lang/IllegalArgumentException" = "java/lang/IllegalArgumentException" ∧ h1 = hh ∧ (x0 < 0 ∨ 12 < x0)))) (mB D hh sz) (mA hh sz)) 1 6 (mA hh sz) := by
  refine va_MetW (cc := cL_setCap) (maxL := 4) (ret := (some .int)) (hh := [(0, 9, 12, 13)]) (by decide) rfl ?_
  intro p e s m args below meth c s₁ B0 hml hv
  obtain ⟨hargs, ⟨hsz, hV, hE⟩, hN⟩ := hv
  subst hsz
  have hx := B0.exec
  have hb := B0.bytes
  have hr := B0.returns
  have hlocks := B0.notSynchronized
  have htsE := atoms_spec (ws := wsL_setCap ++ lxW) B0.pre
  have hts : ∀ w ∈ wsL_setCap, w.before args s = true := fun w h => htsE w (List.mem_append_left _ h)
  have hown : s.vm.findClass RL = some m.cls := findClass_of_methodNamed B0.named
  have hK := hE.1.1
  have hA : ∀ q : Nat, s.heap.size ≤ q → mA hh s.heap.size q := mA.top
  have hS : va_S (mA hh s.heap.size) s.heap s.heap [] := va_S.rf
  have htab : c.exceptionTable.toList = tableOf [(0, 9, 12, 13)] := vx_table (x := objectInit) B0 (hts (.codeWith yL_setCap cL_setCap 4 (some .int) [(0, 9, 12, 13)]) (by decide +kernel))
  have hl := lv_entry ([.ref (L 0 0), .int x0, .ref o]) (n := 4) (by exact Nat.le_of_ble_eq_true rfl)
  have hent := lg_entry_eq m ([.ref (L 0 0), .int x0, .ref o]) 4
  rw [← hargs] at hent
  rw [hent]
  generalize (lg_sl ([.ref (L 0 0), .int x0, .ref o]) ++ List.replicate (4 - (lg_sl ([.ref (L 0 0), .int x0, .ref o])).length) Slot.unset).toArray = ls at hl ⊢
  replace hl : lv_has ls 4 [(0, .ref (L 0 0)), (1, .int x0), (2, .ref o)] := hl
  refine lv_aload_n hx hb dL_setCap_0 rfl (lv_at hl 2 rfl) ?_
  refine lv_iconst (v := 0) hx hb dL_setCap_1 (by decide) ?_
  refine lv_aload_n hx hb dL_setCap_2 rfl (lv_at hl 0 rfl) ?_
  refine lv_iload_n hx hb dL_setCap_3 rfl (lv_at hl 1 rfl) ?_
  refine m_xcalli (vx_runV (As := [.int x0]) (rest := [.int 0, .ref o]) ⟨hx, hb, hml, hown, hts⟩ (c_X4_setCap (l := l) hfl (s.heap.size) hC x0 ) (cwV 1 hts gL_setCap_X4_setCap rfl rfl rfl (by decide +kernel) ⟨by decide, by decide⟩) (m_preV (r := (RX4, TX4, 11)) hE hV hS hA (hC.at (k := 0) (i := 0) rfl) rfl) rfl rfl hl.1 rfl (lv_room (by exact Nat.le_of_ble_eq_true rfl)) dL_setCap_4 ⟨by decide, by decide⟩) hV hS hA (fun E ce q9 h1 H locs hV hS hxp _ g7 g8 g9 => ?_) (fun r h1 H locs hV hS hp _ => ?_)
  · have hE9 : E = "java/lang/IllegalArgumentException" := hxp.1
    rcases hE9 with rfl
    refine vx_catch (name := "java/lang/IllegalArgumentException") hown [] ⟨0, 9, 12, 13⟩ [] htab (fun _ z => nomatch z) (by decide) (by decide) (htsE (.classLink RL 13 "java/lang/IllegalArgumentException") (List.mem_append_right _ (by decide +kernel))) (va_Nw.use rfl (hE.1.2.2.2.2.2.2.2.2 (.castable "java/lang/IllegalArgumentException" "java/lang/IllegalArgumentException") (by decide +kernel))) g7 g8 g9 ?_
    refine lv_astore_n (lv' := [(3, .ref q9), (0, .ref (L 0 0)), (1, .int x0), (2, .ref o)]) hx hb dL_setCap_12 rfl hl (by decide) rfl (fun ls hl => ?_)
    refine lv_iconst (v := 1) hx hb dL_setCap_13 (by decide) ?_
    exact m_iret (v := 1) hx hb hr hlocks hV hS (Or.inr (⟨rfl, hxp⟩)) dL_setCap_14
  · have ho1 : h1 o = some (.inl (cs.2.1, 1, .inr (.inl f))) := by
      rcases hp with ⟨k9, _⟩
      exact (k9.out hoP).trans ho
    refine lv_i2l (v := r.toInt64) hx hb dL_setCap_7 rfl ?_
    refine m_last (Rp := fun h8 => h8 = mu h1 o (.inl (cs.2.1, 1, .inr (.inl (vp_updL f (0 : Int32).toNatClampNeg r.toInt64))))) hx hb hK hV hS 1 (i := 0) ⟨ho1, rfl⟩ rfl (show vp_in (nI 0) 1 from vp_in_nI (by decide) (by decide)) dL_setCap_8 (fun h8 H locs hV hS e8 => ?_)
    refine lv_goto (tgt := 15) hx hb dL_setCap_9 (by decide) ?_
    refine lv_iconst (v := 0) hx hb dL_setCap_15 (by decide) ?_
    exact m_iret (v := 0) hx hb hr hlocks hV hS (Or.inl ⟨rfl, r, h1, hp, ⟨_, by rw [e8]; exact mu_s _ _ _, rfl⟩, fun a ha => by rw [e8]; exact mu_n ha⟩) dL_setCap_16
set_option maxHeartbeats 4000000 in
set_option maxRecDepth 100000 in
theorem c_L_heat {l : Launch} (hfl : l.stackTraces = false) {D : va_G} {cs : mC} {df : Nat} {P : Nat → Prop} {L : KL} {σ : KS} {hh : mH} (sz : Nat) (hC : CRep cs df P hh L σ hh) (o : Nat) (f : Nat → Int64) (ho : hh o = some (.inl (cs.2.1, 1, .inr (.inl f)))) (hoP : ¬ P o) (x0 : Int32) : Met l yL_heat (wsL_heat ++ lxW) ({ frames := 7, cells := 1, slots := 6, locals := 112 }) (lPre [.ref (L 0 0), .int x0, .ref o] D cs df hh sz) (va_Qi (fun (r : Int32) (h1 : mH) => (r = 0 ∧ ∃ (v : Int32) (h9 : mH), (∃ t, inR x0 (kN σ 62 0) = some t ∧ h9 = hh ∧ v = kI σ 11 t) ∧ oL cs h1 o v.toInt64 ∧ ∀ a, a ≠ o → h1 a = h9 a) ∨ (r = 1 ∧ ("java/lang/IndexOutOfBoundsException" = "java/lang/IndexOutOfBoundsException" ∧ h1 = hh ∧ inR x0 (kN σ 62 0) = none))) (mB D hh sz) (mA hh sz)) 1 6 (mA hh sz) := by
  refine va_MetW (cc := cL_heat) (maxL := 4) (ret := (some .int)) (hh := [(0, 9, 12, 26)]) (by decide) rfl ?_
  intro p e s m args below meth c s₁ B0 hml hv
  obtain ⟨hargs, ⟨hsz, hV, hE⟩, hN⟩ := hv
  subst hsz
  have hx := B0.exec
  have hb := B0.bytes
  have hr := B0.returns
  have hlocks := B0.notSynchronized
  have htsE := atoms_spec (ws := wsL_heat ++ lxW) B0.pre
  have hts : ∀ w ∈ wsL_heat, w.before args s = true := fun w h => htsE w (List.mem_append_left _ h)
  have hown : s.vm.findClass RL = some m.cls := findClass_of_methodNamed B0.named
  have hK := hE.1.1
  have hA : ∀ q : Nat, s.heap.size ≤ q → mA hh s.heap.size q := mA.top
  have hS : va_S (mA hh s.heap.size) s.heap s.heap [] := va_S.rf
  have htab : c.exceptionTable.toList = tableOf [(0, 9, 12, 26)] := vx_table (x := objectInit) B0 (hts (.codeWith yL_heat cL_heat 4 (some .int) [(0, 9, 12, 26)]) (by decide +kernel))
  have hl := lv_entry ([.ref (L 0 0), .int x0, .ref o]) (n := 4) (by exact Nat.le_of_ble_eq_true rfl)
  have hent := lg_entry_eq m ([.ref (L 0 0), .int x0, .ref o]) 4
  rw [← hargs] at hent
  rw [hent]
  generalize (lg_sl ([.ref (L 0 0), .int x0, .ref o]) ++ List.replicate (4 - (lg_sl ([.ref (L 0 0), .int x0, .ref o])).length) Slot.unset).toArray = ls at hl ⊢
  replace hl : lv_has ls 4 [(0, .ref (L 0 0)), (1, .int x0), (2, .ref o)] := hl
  refine lv_aload_n hx hb dL_heat_0 rfl (lv_at hl 2 rfl) ?_
  refine lv_iconst (v := 0) hx hb dL_heat_1 (by decide) ?_
  refine lv_aload_n hx hb dL_heat_2 rfl (lv_at hl 0 rfl) ?_
  refine lv_iload_n hx hb dL_heat_3 rfl (lv_at hl 1 rfl) ?_
  refine m_xcalli (vx_runV (As := [.int x0]) (rest := [.int 0, .ref o]) ⟨hx, hb, hml, hown, hts⟩ (c_X4_heat (l := l) hfl (s.heap.size) hC x0 ) (cwV 1 hts gL_heat_X4_heat rfl rfl rfl (by decide +kernel) ⟨by decide, by decide⟩) (m_preV (r := (RX4, TX4, 11)) hE hV hS hA (hC.at (k := 0) (i := 0) rfl) rfl) rfl rfl hl.1 rfl (lv_room (by exact Nat.le_of_ble_eq_true rfl)) dL_heat_4 ⟨by decide, by decide⟩) hV hS hA (fun E ce q9 h1 H locs hV hS hxp _ g7 g8 g9 => ?_) (fun r h1 H locs hV hS hp _ => ?_)
  · have hE9 : E = "java/lang/IndexOutOfBoundsException" := hxp.1
    rcases hE9 with rfl
    refine vx_catch (name := "java/lang/IndexOutOfBoundsException") hown [] ⟨0, 9, 12, 26⟩ [] htab (fun _ z => nomatch z) (by decide) (by decide) (htsE (.classLink RL 26 "java/lang/IndexOutOfBoundsException") (List.mem_append_right _ (by decide +kernel))) (va_Nw.use rfl (hE.1.2.2.2.2.2.2.2.2 (.castable "java/lang/IndexOutOfBoundsException" "java/lang/IndexOutOfBoundsException") (by decide +kernel))) g7 g8 g9 ?_
    refine lv_astore_n (lv' := [(3, .ref q9), (0, .ref (L 0 0)), (1, .int x0), (2, .ref o)]) hx hb dL_heat_12 rfl hl (by decide) rfl (fun ls hl => ?_)
    refine lv_iconst (v := 1) hx hb dL_heat_13 (by decide) ?_
    exact m_iret (v := 1) hx hb hr hlocks hV hS (Or.inr (⟨rfl, hxp⟩)) dL_heat_14
  · have ho1 : h1 o = some (.inl (cs.2.1, 1, .inr (.inl f))) := by
      rcases hp with ⟨_, _, e9, _⟩
      rw [e9]; exact ho
    refine lv_i2l (v := r.toInt64) hx hb dL_heat_7 rfl ?_
    refine m_last (Rp := fun h8 => h8 = mu h1 o (.inl (cs.2.1, 1, .inr (.inl (vp_updL f (0 : Int32).toNatClampNeg r.toInt64))))) hx hb hK hV hS 1 (i := 0) ⟨ho1, rfl⟩ rfl (show vp_in (nI 0) 1 from vp_in_nI (by decide) (by decide)) dL_heat_8 (fun h8 H locs hV hS e8 => ?_)
    refine lv_goto (tgt := 15) hx hb dL_heat_9 (by decide) ?_
    refine lv_iconst (v := 0) hx hb dL_heat_15 (by decide) ?_
    exact m_iret (v := 0) hx hb hr hlocks hV hS (Or.inl ⟨rfl, r, h1, hp, ⟨_, by rw [e8]; exact mu_s _ _ _, rfl⟩, fun a ha => by rw [e8]; exact mu_n ha⟩) dL_heat_16
set_option maxHeartbeats 4000000 in
set_option maxRecDepth 100000 in
theorem c_L_pace {l : Launch} (hfl : l.stackTraces = false) {D : va_G} {cs : mC} {df : Nat} {P : Nat → Prop} {L : KL} {σ : KS} {hh : mH} (sz : Nat) (hC : CRep cs df P hh L σ hh) (o : Nat) (f : Nat → Int64) (ho : hh o = some (.inl (cs.2.1, 1, .inr (.inl f)))) (hoP : ¬ P o) (x0 : Int32) : Met l yL_pace (wsL_pace ++ lxW) ({ frames := 7, cells := 1, slots := 6, locals := 112 }) (lPre [.ref (L 0 0), .int x0, .ref o] D cs df hh sz) (va_Qi (fun (r : Int32) (h1 : mH) => (r = 0 ∧ ∃ (v : Int32) (h9 : mH), (∃ t, inR x0 (kN σ 62 0) = some t ∧ h9 = hh ∧ v = paceS (kI σ 10 t) (kI σ 11 t) (kI σ 0 0)) ∧ oL cs h1 o v.toInt64 ∧ ∀ a, a ≠ o → h1 a = h9 a) ∨ (r = 1 ∧ ("java/lang/IndexOutOfBoundsException" = "java/lang/IndexOutOfBoundsException" ∧ h1 = hh ∧ inR x0 (kN σ 62 0) = none))) (mB D hh sz) (mA hh sz)) 1 6 (mA hh sz) := by
  refine va_MetW (cc := cL_pace) (maxL := 4) (ret := (some .int)) (hh := [(0, 9, 12, 26)]) (by decide) rfl ?_
  intro p e s m args below meth c s₁ B0 hml hv
  obtain ⟨hargs, ⟨hsz, hV, hE⟩, hN⟩ := hv
  subst hsz
  have hx := B0.exec
  have hb := B0.bytes
  have hr := B0.returns
  have hlocks := B0.notSynchronized
  have htsE := atoms_spec (ws := wsL_pace ++ lxW) B0.pre
  have hts : ∀ w ∈ wsL_pace, w.before args s = true := fun w h => htsE w (List.mem_append_left _ h)
  have hown : s.vm.findClass RL = some m.cls := findClass_of_methodNamed B0.named
  have hK := hE.1.1
  have hA : ∀ q : Nat, s.heap.size ≤ q → mA hh s.heap.size q := mA.top
  have hS : va_S (mA hh s.heap.size) s.heap s.heap [] := va_S.rf
  have htab : c.exceptionTable.toList = tableOf [(0, 9, 12, 26)] := vx_table (x := objectInit) B0 (hts (.codeWith yL_pace cL_pace 4 (some .int) [(0, 9, 12, 26)]) (by decide +kernel))
  have hl := lv_entry ([.ref (L 0 0), .int x0, .ref o]) (n := 4) (by exact Nat.le_of_ble_eq_true rfl)
  have hent := lg_entry_eq m ([.ref (L 0 0), .int x0, .ref o]) 4
  rw [← hargs] at hent
  rw [hent]
  generalize (lg_sl ([.ref (L 0 0), .int x0, .ref o]) ++ List.replicate (4 - (lg_sl ([.ref (L 0 0), .int x0, .ref o])).length) Slot.unset).toArray = ls at hl ⊢
  replace hl : lv_has ls 4 [(0, .ref (L 0 0)), (1, .int x0), (2, .ref o)] := hl
  refine lv_aload_n hx hb dL_pace_0 rfl (lv_at hl 2 rfl) ?_
  refine lv_iconst (v := 0) hx hb dL_pace_1 (by decide) ?_
  refine lv_aload_n hx hb dL_pace_2 rfl (lv_at hl 0 rfl) ?_
  refine lv_iload_n hx hb dL_pace_3 rfl (lv_at hl 1 rfl) ?_
  refine m_xcalli (vx_runV (As := [.int x0]) (rest := [.int 0, .ref o]) ⟨hx, hb, hml, hown, hts⟩ (c_X4_pace (l := l) hfl (s.heap.size) hC x0 ) (cwV 1 hts gL_pace_X4_pace rfl rfl rfl (by decide +kernel) ⟨by decide, by decide⟩) (m_preV (r := (RX4, TX4, 11)) hE hV hS hA (hC.at (k := 0) (i := 0) rfl) rfl) rfl rfl hl.1 rfl (lv_room (by exact Nat.le_of_ble_eq_true rfl)) dL_pace_4 ⟨by decide, by decide⟩) hV hS hA (fun E ce q9 h1 H locs hV hS hxp _ g7 g8 g9 => ?_) (fun r h1 H locs hV hS hp _ => ?_)
  · have hE9 : E = "java/lang/IndexOutOfBoundsException" := hxp.1
    rcases hE9 with rfl
    refine vx_catch (name := "java/lang/IndexOutOfBoundsException") hown [] ⟨0, 9, 12, 26⟩ [] htab (fun _ z => nomatch z) (by decide) (by decide) (htsE (.classLink RL 26 "java/lang/IndexOutOfBoundsException") (List.mem_append_right _ (by decide +kernel))) (va_Nw.use rfl (hE.1.2.2.2.2.2.2.2.2 (.castable "java/lang/IndexOutOfBoundsException" "java/lang/IndexOutOfBoundsException") (by decide +kernel))) g7 g8 g9 ?_
    refine lv_astore_n (lv' := [(3, .ref q9), (0, .ref (L 0 0)), (1, .int x0), (2, .ref o)]) hx hb dL_pace_12 rfl hl (by decide) rfl (fun ls hl => ?_)
    refine lv_iconst (v := 1) hx hb dL_pace_13 (by decide) ?_
    exact m_iret (v := 1) hx hb hr hlocks hV hS (Or.inr (⟨rfl, hxp⟩)) dL_pace_14
  · have ho1 : h1 o = some (.inl (cs.2.1, 1, .inr (.inl f))) := by
      rcases hp with ⟨_, _, e9, _⟩
      rw [e9]; exact ho
    refine lv_i2l (v := r.toInt64) hx hb dL_pace_7 rfl ?_
    refine m_last (Rp := fun h8 => h8 = mu h1 o (.inl (cs.2.1, 1, .inr (.inl (vp_updL f (0 : Int32).toNatClampNeg r.toInt64))))) hx hb hK hV hS 1 (i := 0) ⟨ho1, rfl⟩ rfl (show vp_in (nI 0) 1 from vp_in_nI (by decide) (by decide)) dL_pace_8 (fun h8 H locs hV hS e8 => ?_)
    refine lv_goto (tgt := 15) hx hb dL_pace_9 (by decide) ?_
    refine lv_iconst (v := 0) hx hb dL_pace_15 (by decide) ?_
    exact m_iret (v := 0) hx hb hr hlocks hV hS (Or.inl ⟨rfl, r, h1, hp, ⟨_, by rw [e8]; exact mu_s _ _ _, rfl⟩, fun a ha => by rw [e8]; exact mu_n ha⟩) dL_pace_16
set_option maxHeartbeats 4000000 in
set_option maxRecDepth 100000 in
theorem c_L_addGroup {l : Launch} (hfl : l.stackTraces = false) {D : va_G} {cs : mC} {df : Nat} {P : Nat → Prop} {L : KL} {σ : KS} {hh : mH} (sz : Nat) (hC : CRep cs df P hh L σ hh) (o : Nat) (f : Nat → Int64) (ho : hh o = some (.inl (cs.2.1, 1, .inr (.inl f)))) (hoP : ¬ P o) (x0 : Int32) (x1 : Int32) : Met l yL_addGroup (wsL_addGroup ++ lxW) ({ frames := 8, cells := 2, slots := 206, locals := 215 }) (lPre [.ref (L 0 0), .int x0, .int x1, .ref o] D cs df hh sz) (va_Qi (fun (r : Int32) (h1 : mH) => (r = 0 ∧ ∃ (v : Int32) (h9 : mH), (∃ g, inR x0 (kN σ 62 1) = some g ∧ (1 ≤ x1 ∧ x1 ≤ 9) ∧ kN σ 62 1 < 6 ∧ (∃ L1 : KL, L1 0 0 = L 0 0 ∧ CRep cs df P hh L1 (grpS σ g (2520 / x1) (leastS σ g)) h9) ∧ v = nI (kN σ 62 1)) ∧ oL cs h1 o v.toInt64 ∧ ∀ a, a ≠ o → h1 a = h9 a) ∨ (r = 1 ∧ (h1 = hh ∧ ("java/lang/IndexOutOfBoundsException" = "java/lang/IndexOutOfBoundsException" ∧ inR x0 (kN σ 62 1) = none ∨ "java/lang/IndexOutOfBoundsException" = "java/lang/IllegalArgumentException" ∧ inR x0 (kN σ 62 1) ≠ none ∧ (x1 < 1 ∨ 9 < x1) ∨ "java/lang/IndexOutOfBoundsException" = "java/lang/IllegalStateException" ∧ inR x0 (kN σ 62 1) ≠ none ∧ ¬ (x1 < 1 ∨ 9 < x1) ∧ ¬ kN σ 62 1 < 6))) ∨ (r = 2 ∧ (h1 = hh ∧ ("java/lang/IllegalArgumentException" = "java/lang/IndexOutOfBoundsException" ∧ inR x0 (kN σ 62 1) = none ∨ "java/lang/IllegalArgumentException" = "java/lang/IllegalArgumentException" ∧ inR x0 (kN σ 62 1) ≠ none ∧ (x1 < 1 ∨ 9 < x1) ∨ "java/lang/IllegalArgumentException" = "java/lang/IllegalStateException" ∧ inR x0 (kN σ 62 1) ≠ none ∧ ¬ (x1 < 1 ∨ 9 < x1) ∧ ¬ kN σ 62 1 < 6))) ∨ (r = 3 ∧ (h1 = hh ∧ ("java/lang/IllegalStateException" = "java/lang/IndexOutOfBoundsException" ∧ inR x0 (kN σ 62 1) = none ∨ "java/lang/IllegalStateException" = "java/lang/IllegalArgumentException" ∧ inR x0 (kN σ 62 1) ≠ none ∧ (x1 < 1 ∨ 9 < x1) ∨ "java/lang/IllegalStateException" = "java/lang/IllegalStateException" ∧ inR x0 (kN σ 62 1) ≠ none ∧ ¬ (x1 < 1 ∨ 9 < x1) ∧ ¬ kN σ 62 1 < 6)))) (mB D hh sz) (mA hh sz)) 2 206 (mA hh sz) := by
  refine va_MetW (cc := cL_addGroup) (maxL := 5) (ret := (some .int)) (hh := [(0, 10, 13, 26), (0, 10, 17, 13), (0, 10, 21, 15)]) (by decide) rfl ?_
  intro p e s m args below meth c s₁ B0 hml hv
  obtain ⟨hargs, ⟨hsz, hV, hE⟩, hN⟩ := hv
  subst hsz
  have hx := B0.exec
  have hb := B0.bytes
  have hr := B0.returns
  have hlocks := B0.notSynchronized
  have htsE := atoms_spec (ws := wsL_addGroup ++ lxW) B0.pre
  have hts : ∀ w ∈ wsL_addGroup, w.before args s = true := fun w h => htsE w (List.mem_append_left _ h)
  have hown : s.vm.findClass RL = some m.cls := findClass_of_methodNamed B0.named
  have hK := hE.1.1
  have hA : ∀ q : Nat, s.heap.size ≤ q → mA hh s.heap.size q := mA.top
  have hS : va_S (mA hh s.heap.size) s.heap s.heap [] := va_S.rf
  have htab : c.exceptionTable.toList = tableOf [(0, 10, 13, 26), (0, 10, 17, 13), (0, 10, 21, 15)] := vx_table (x := objectInit) B0 (hts (.codeWith yL_addGroup cL_addGroup 5 (some .int) [(0, 10, 13, 26), (0, 10, 17, 13), (0, 10, 21, 15)]) (by decide +kernel))
  have hl := lv_entry ([.ref (L 0 0), .int x0, .int x1, .ref o]) (n := 5) (by exact Nat.le_of_ble_eq_true rfl)
  have hent := lg_entry_eq m ([.ref (L 0 0), .int x0, .int x1, .ref o]) 5
  rw [← hargs] at hent
  rw [hent]
  generalize (lg_sl ([.ref (L 0 0), .int x0, .int x1, .ref o]) ++ List.replicate (5 - (lg_sl ([.ref (L 0 0), .int x0, .int x1, .ref o])).length) Slot.unset).toArray = ls at hl ⊢
  replace hl : lv_has ls 5 [(0, .ref (L 0 0)), (1, .int x0), (2, .int x1), (3, .ref o)] := hl
  refine lv_aload_n hx hb dL_addGroup_0 rfl (lv_at hl 3 rfl) ?_
  refine lv_iconst (v := 0) hx hb dL_addGroup_1 (by decide) ?_
  refine lv_aload_n hx hb dL_addGroup_2 rfl (lv_at hl 0 rfl) ?_
  refine lv_iload_n hx hb dL_addGroup_3 rfl (lv_at hl 1 rfl) ?_
  refine lv_iload_n hx hb dL_addGroup_4 rfl (lv_at hl 2 rfl) ?_
  refine m_xcalli (vx_runV (As := [.int x0, .int x1]) (rest := [.int 0, .ref o]) ⟨hx, hb, hml, hown, hts⟩ (c_X4_addGroup (l := l) hfl (s.heap.size) hC x0 x1 ) (cwV 2 hts gL_addGroup_X4_addGroup rfl rfl rfl (by decide +kernel) ⟨by decide, by decide⟩) (m_preV (r := (RX4, TX4, 11)) hE hV hS hA (hC.at (k := 0) (i := 0) rfl) rfl) rfl rfl hl.1 rfl (lv_room (by exact Nat.le_of_ble_eq_true rfl)) dL_addGroup_5 ⟨by decide, by decide⟩) hV hS hA (fun E ce q9 h1 H locs hV hS hxp _ g7 g8 g9 => ?_) (fun r h1 H locs hV hS hp _ => ?_)
  · have hE9 : E = "java/lang/IndexOutOfBoundsException" ∨ E = "java/lang/IllegalArgumentException" ∨ E = "java/lang/IllegalStateException" := hxp.2.elim (fun z => Or.inl z.1) (fun z => Or.inr (z.elim (fun z => Or.inl z.1) (fun z => Or.inr z.1)))
    rcases hE9 with rfl | rfl | rfl
    · refine vx_catch (name := "java/lang/IndexOutOfBoundsException") hown [] ⟨0, 10, 13, 26⟩ [⟨0, 10, 17, 13⟩, ⟨0, 10, 21, 15⟩] htab (fun _ z => nomatch z) (by decide) (by decide) (htsE (.classLink RL 26 "java/lang/IndexOutOfBoundsException") (List.mem_append_right _ (by decide +kernel))) (va_Nw.use rfl (hE.1.2.2.2.2.2.2.2.2 (.castable "java/lang/IndexOutOfBoundsException" "java/lang/IndexOutOfBoundsException") (by decide +kernel))) g7 g8 g9 ?_
      refine lv_astore (lv' := [(4, .ref q9), (0, .ref (L 0 0)), (1, .int x0), (2, .int x1), (3, .ref o)]) hx hb dL_addGroup_13 hl (by decide) rfl (fun ls hl => ?_)
      refine lv_iconst (v := 1) hx hb dL_addGroup_15 (by decide) ?_
      exact m_iret (v := 1) hx hb hr hlocks hV hS (Or.inr (Or.inl ⟨rfl, hxp⟩)) dL_addGroup_16
    · refine vx_catch (name := "java/lang/IllegalArgumentException") hown [⟨0, 10, 13, 26⟩] ⟨0, 10, 17, 13⟩ [⟨0, 10, 21, 15⟩] htab (List.forall_mem_cons.mpr ⟨Or.inr ⟨by decide, "java/lang/IndexOutOfBoundsException", htsE (.classLink RL 26 "java/lang/IndexOutOfBoundsException") (List.mem_append_right _ (by decide +kernel)), hN ("java/lang/IllegalArgumentException", "java/lang/IndexOutOfBoundsException") (List.mem_of_getElem? (i := 1) rfl)⟩, (fun _ z => nomatch z)⟩) (by decide) (by decide) (htsE (.classLink RL 13 "java/lang/IllegalArgumentException") (List.mem_append_right _ (by decide +kernel))) (va_Nw.use rfl (hE.1.2.2.2.2.2.2.2.2 (.castable "java/lang/IllegalArgumentException" "java/lang/IllegalArgumentException") (by decide +kernel))) g7 g8 g9 ?_
      refine lv_astore (lv' := [(4, .ref q9), (0, .ref (L 0 0)), (1, .int x0), (2, .int x1), (3, .ref o)]) hx hb dL_addGroup_17 hl (by decide) rfl (fun ls hl => ?_)
      refine lv_iconst (v := 2) hx hb dL_addGroup_19 (by decide) ?_
      exact m_iret (v := 2) hx hb hr hlocks hV hS (Or.inr (Or.inr (Or.inl ⟨rfl, hxp⟩))) dL_addGroup_20
    · refine vx_catch (name := "java/lang/IllegalStateException") hown [⟨0, 10, 13, 26⟩, ⟨0, 10, 17, 13⟩] ⟨0, 10, 21, 15⟩ [] htab (List.forall_mem_cons.mpr ⟨Or.inr ⟨by decide, "java/lang/IndexOutOfBoundsException", htsE (.classLink RL 26 "java/lang/IndexOutOfBoundsException") (List.mem_append_right _ (by decide +kernel)), hN ("java/lang/IllegalStateException", "java/lang/IndexOutOfBoundsException") (List.mem_of_getElem? (i := 2) rfl)⟩, (List.forall_mem_cons.mpr ⟨Or.inr ⟨by decide, "java/lang/IllegalArgumentException", htsE (.classLink RL 13 "java/lang/IllegalArgumentException") (List.mem_append_right _ (by decide +kernel)), hN ("java/lang/IllegalStateException", "java/lang/IllegalArgumentException") (List.mem_of_getElem? (i := 0) rfl)⟩, (fun _ z => nomatch z)⟩)⟩) (by decide) (by decide) (htsE (.classLink RL 15 "java/lang/IllegalStateException") (List.mem_append_right _ (by decide +kernel))) (va_Nw.use rfl (hE.1.2.2.2.2.2.2.2.2 (.castable "java/lang/IllegalStateException" "java/lang/IllegalStateException") (by decide +kernel))) g7 g8 g9 ?_
      refine lv_astore (lv' := [(4, .ref q9), (0, .ref (L 0 0)), (1, .int x0), (2, .int x1), (3, .ref o)]) hx hb dL_addGroup_21 hl (by decide) rfl (fun ls hl => ?_)
      refine lv_iconst (v := 3) hx hb dL_addGroup_23 (by decide) ?_
      exact m_iret (v := 3) hx hb hr hlocks hV hS (Or.inr (Or.inr (Or.inr (⟨rfl, hxp⟩)))) dL_addGroup_24
  · have ho1 : h1 o = some (.inl (cs.2.1, 1, .inr (.inl f))) := by
      rcases hp with ⟨_, _, _, _, ⟨_, _, k9⟩, _⟩
      exact (k9.out hoP).trans ho
    refine lv_i2l (v := r.toInt64) hx hb dL_addGroup_8 rfl ?_
    refine m_last (Rp := fun h8 => h8 = mu h1 o (.inl (cs.2.1, 1, .inr (.inl (vp_updL f (0 : Int32).toNatClampNeg r.toInt64))))) hx hb hK hV hS 1 (i := 0) ⟨ho1, rfl⟩ rfl (show vp_in (nI 0) 1 from vp_in_nI (by decide) (by decide)) dL_addGroup_9 (fun h8 H locs hV hS e8 => ?_)
    refine lv_goto (tgt := 25) hx hb dL_addGroup_10 (by decide) ?_
    refine lv_iconst (v := 0) hx hb dL_addGroup_25 (by decide) ?_
    exact m_iret (v := 0) hx hb hr hlocks hV hS (Or.inl ⟨rfl, r, h1, hp, ⟨_, by rw [e8]; exact mu_s _ _ _, rfl⟩, fun a ha => by rw [e8]; exact mu_n ha⟩) dL_addGroup_26
set_option maxHeartbeats 4000000 in
set_option maxRecDepth 100000 in
theorem c_L_addPlain {l : Launch} (hfl : l.stackTraces = false) {D : va_G} {cs : mC} {df : Nat} {P : Nat → Prop} {L : KL} {σ : KS} {hh : mH} (sz : Nat) (hC : CRep cs df P hh L σ hh) (o : Nat) (f : Nat → Int64) (ho : hh o = some (.inl (cs.2.1, 1, .inr (.inl f)))) (hoP : ¬ P o) (x0 : Int32) (x1 : Int32) (x2 : Int32) : Met l yL_addPlain (wsL_addPlain ++ lxW) ({ frames := 8, cells := 2, slots := 216, locals := 216 }) (lPre [.ref (L 0 0), .int x0, .int x1, .int x2, .ref o] D cs df hh sz) (va_Qi (fun (r : Int32) (h1 : mH) => (r = 0 ∧ ∃ (v : Int32) (h9 : mH), (∃ g, inR x0 (kN σ 62 1) = some g ∧ ((1 ≤ x1 ∧ x1 ≤ 9) ∧ 1 ≤ x2 ∧ x2 ≤ 500) ∧ kN σ 62 2 < 12 ∧ (∃ L1 : KL, L1 0 0 = L 0 0 ∧ CRep cs df P hh L1 (tskS σ g (2520 / x1) (leastS σ g) x2 0 0 0 0) h9) ∧ v = nI (kN σ 62 2)) ∧ oL cs h1 o v.toInt64 ∧ ∀ a, a ≠ o → h1 a = h9 a) ∨ (r = 1 ∧ (h1 = hh ∧ ("java/lang/IndexOutOfBoundsException" = "java/lang/IndexOutOfBoundsException" ∧ inR x0 (kN σ 62 1) = none ∨ "java/lang/IndexOutOfBoundsException" = "java/lang/IllegalArgumentException" ∧ inR x0 (kN σ 62 1) ≠ none ∧ (x1 < 1 ∨ 9 < x1 ∨ x2 < 1 ∨ 500 < x2) ∨ "java/lang/IndexOutOfBoundsException" = "java/lang/IllegalStateException" ∧ inR x0 (kN σ 62 1) ≠ none ∧ ¬ (x1 < 1 ∨ 9 < x1 ∨ x2 < 1 ∨ 500 < x2) ∧ ¬ kN σ 62 2 < 12))) ∨ (r = 2 ∧ (h1 = hh ∧ ("java/lang/IllegalArgumentException" = "java/lang/IndexOutOfBoundsException" ∧ inR x0 (kN σ 62 1) = none ∨ "java/lang/IllegalArgumentException" = "java/lang/IllegalArgumentException" ∧ inR x0 (kN σ 62 1) ≠ none ∧ (x1 < 1 ∨ 9 < x1 ∨ x2 < 1 ∨ 500 < x2) ∨ "java/lang/IllegalArgumentException" = "java/lang/IllegalStateException" ∧ inR x0 (kN σ 62 1) ≠ none ∧ ¬ (x1 < 1 ∨ 9 < x1 ∨ x2 < 1 ∨ 500 < x2) ∧ ¬ kN σ 62 2 < 12))) ∨ (r = 3 ∧ (h1 = hh ∧ ("java/lang/IllegalStateException" = "java/lang/IndexOutOfBoundsException" ∧ inR x0 (kN σ 62 1) = none ∨ "java/lang/IllegalStateException" = "java/lang/IllegalArgumentException" ∧ inR x0 (kN σ 62 1) ≠ none ∧ (x1 < 1 ∨ 9 < x1 ∨ x2 < 1 ∨ 500 < x2) ∨ "java/lang/IllegalStateException" = "java/lang/IllegalStateException" ∧ inR x0 (kN σ 62 1) ≠ none ∧ ¬ (x1 < 1 ∨ 9 < x1 ∨ x2 < 1 ∨ 500 < x2) ∧ ¬ kN σ 62 2 < 12)))) (mB D hh sz) (mA hh sz)) 2 216 (mA hh sz) := by
  refine va_MetW (cc := cL_addPlain) (maxL := 6) (ret := (some .int)) (hh := [(0, 12, 15, 26), (0, 12, 19, 13), (0, 12, 23, 15)]) (by decide) rfl ?_
  intro p e s m args below meth c s₁ B0 hml hv
  obtain ⟨hargs, ⟨hsz, hV, hE⟩, hN⟩ := hv
  subst hsz
  have hx := B0.exec
  have hb := B0.bytes
  have hr := B0.returns
  have hlocks := B0.notSynchronized
  have htsE := atoms_spec (ws := wsL_addPlain ++ lxW) B0.pre
  have hts : ∀ w ∈ wsL_addPlain, w.before args s = true := fun w h => htsE w (List.mem_append_left _ h)
  have hown : s.vm.findClass RL = some m.cls := findClass_of_methodNamed B0.named
  have hK := hE.1.1
  have hA : ∀ q : Nat, s.heap.size ≤ q → mA hh s.heap.size q := mA.top
  have hS : va_S (mA hh s.heap.size) s.heap s.heap [] := va_S.rf
  have htab : c.exceptionTable.toList = tableOf [(0, 12, 15, 26), (0, 12, 19, 13), (0, 12, 23, 15)] := vx_table (x := objectInit) B0 (hts (.codeWith yL_addPlain cL_addPlain 6 (some .int) [(0, 12, 15, 26), (0, 12, 19, 13), (0, 12, 23, 15)]) (by decide +kernel))
  have hl := lv_entry ([.ref (L 0 0), .int x0, .int x1, .int x2, .ref o]) (n := 6) (by exact Nat.le_of_ble_eq_true rfl)
  have hent := lg_entry_eq m ([.ref (L 0 0), .int x0, .int x1, .int x2, .ref o]) 6
  rw [← hargs] at hent
  rw [hent]
  generalize (lg_sl ([.ref (L 0 0), .int x0, .int x1, .int x2, .ref o]) ++ List.replicate (6 - (lg_sl ([.ref (L 0 0), .int x0, .int x1, .int x2, .ref o])).length) Slot.unset).toArray = ls at hl ⊢
  replace hl : lv_has ls 6 [(0, .ref (L 0 0)), (1, .int x0), (2, .int x1), (3, .int x2), (4, .ref o)] := hl
  refine lv_aload hx hb dL_addPlain_0 (lv_at hl 4 rfl) ?_
  refine lv_iconst (v := 0) hx hb dL_addPlain_2 (by decide) ?_
  refine lv_aload_n hx hb dL_addPlain_3 rfl (lv_at hl 0 rfl) ?_
  refine lv_iload_n hx hb dL_addPlain_4 rfl (lv_at hl 1 rfl) ?_
  refine lv_iload_n hx hb dL_addPlain_5 rfl (lv_at hl 2 rfl) ?_
  refine lv_iload_n hx hb dL_addPlain_6 rfl (lv_at hl 3 rfl) ?_
  refine m_xcalli (vx_runV (As := [.int x0, .int x1, .int x2]) (rest := [.int 0, .ref o]) ⟨hx, hb, hml, hown, hts⟩ (c_X4_addPlain (l := l) hfl (s.heap.size) hC x0 x1 x2 ) (cwV 3 hts gL_addPlain_X4_addPlain rfl rfl rfl (by decide +kernel) ⟨by decide, by decide⟩) (m_preV (r := (RX4, TX4, 11)) hE hV hS hA (hC.at (k := 0) (i := 0) rfl) rfl) rfl rfl hl.1 rfl (lv_room (by exact Nat.le_of_ble_eq_true rfl)) dL_addPlain_7 ⟨by decide, by decide⟩) hV hS hA (fun E ce q9 h1 H locs hV hS hxp _ g7 g8 g9 => ?_) (fun r h1 H locs hV hS hp _ => ?_)
  · have hE9 : E = "java/lang/IndexOutOfBoundsException" ∨ E = "java/lang/IllegalArgumentException" ∨ E = "java/lang/IllegalStateException" := hxp.2.elim (fun z => Or.inl z.1) (fun z => Or.inr (z.elim (fun z => Or.inl z.1) (fun z => Or.inr z.1)))
    rcases hE9 with rfl | rfl | rfl
    · refine vx_catch (name := "java/lang/IndexOutOfBoundsException") hown [] ⟨0, 12, 15, 26⟩ [⟨0, 12, 19, 13⟩, ⟨0, 12, 23, 15⟩] htab (fun _ z => nomatch z) (by decide) (by decide) (htsE (.classLink RL 26 "java/lang/IndexOutOfBoundsException") (List.mem_append_right _ (by decide +kernel))) (va_Nw.use rfl (hE.1.2.2.2.2.2.2.2.2 (.castable "java/lang/IndexOutOfBoundsException" "java/lang/IndexOutOfBoundsException") (by decide +kernel))) g7 g8 g9 ?_
      refine lv_astore (lv' := [(5, .ref q9), (0, .ref (L 0 0)), (1, .int x0), (2, .int x1), (3, .int x2), (4, .ref o)]) hx hb dL_addPlain_15 hl (by decide) rfl (fun ls hl => ?_)
      refine lv_iconst (v := 1) hx hb dL_addPlain_17 (by decide) ?_
      exact m_iret (v := 1) hx hb hr hlocks hV hS (Or.inr (Or.inl ⟨rfl, hxp⟩)) dL_addPlain_18
    · refine vx_catch (name := "java/lang/IllegalArgumentException") hown [⟨0, 12, 15, 26⟩] ⟨0, 12, 19, 13⟩ [⟨0, 12, 23, 15⟩] htab (List.forall_mem_cons.mpr ⟨Or.inr ⟨by decide, "java/lang/IndexOutOfBoundsException", htsE (.classLink RL 26 "java/lang/IndexOutOfBoundsException") (List.mem_append_right _ (by decide +kernel)), hN ("java/lang/IllegalArgumentException", "java/lang/IndexOutOfBoundsException") (List.mem_of_getElem? (i := 1) rfl)⟩, (fun _ z => nomatch z)⟩) (by decide) (by decide) (htsE (.classLink RL 13 "java/lang/IllegalArgumentException") (List.mem_append_right _ (by decide +kernel))) (va_Nw.use rfl (hE.1.2.2.2.2.2.2.2.2 (.castable "java/lang/IllegalArgumentException" "java/lang/IllegalArgumentException") (by decide +kernel))) g7 g8 g9 ?_
      refine lv_astore (lv' := [(5, .ref q9), (0, .ref (L 0 0)), (1, .int x0), (2, .int x1), (3, .int x2), (4, .ref o)]) hx hb dL_addPlain_19 hl (by decide) rfl (fun ls hl => ?_)
      refine lv_iconst (v := 2) hx hb dL_addPlain_21 (by decide) ?_
      exact m_iret (v := 2) hx hb hr hlocks hV hS (Or.inr (Or.inr (Or.inl ⟨rfl, hxp⟩))) dL_addPlain_22
    · refine vx_catch (name := "java/lang/IllegalStateException") hown [⟨0, 12, 15, 26⟩, ⟨0, 12, 19, 13⟩] ⟨0, 12, 23, 15⟩ [] htab (List.forall_mem_cons.mpr ⟨Or.inr ⟨by decide, "java/lang/IndexOutOfBoundsException", htsE (.classLink RL 26 "java/lang/IndexOutOfBoundsException") (List.mem_append_right _ (by decide +kernel)), hN ("java/lang/IllegalStateException", "java/lang/IndexOutOfBoundsException") (List.mem_of_getElem? (i := 2) rfl)⟩, (List.forall_mem_cons.mpr ⟨Or.inr ⟨by decide, "java/lang/IllegalArgumentException", htsE (.classLink RL 13 "java/lang/IllegalArgumentException") (List.mem_append_right _ (by decide +kernel)), hN ("java/lang/IllegalStateException", "java/lang/IllegalArgumentException") (List.mem_of_getElem? (i := 0) rfl)⟩, (fun _ z => nomatch z)⟩)⟩) (by decide) (by decide) (htsE (.classLink RL 15 "java/lang/IllegalStateException") (List.mem_append_right _ (by decide +kernel))) (va_Nw.use rfl (hE.1.2.2.2.2.2.2.2.2 (.castable "java/lang/IllegalStateException" "java/lang/IllegalStateException") (by decide +kernel))) g7 g8 g9 ?_
      refine lv_astore (lv' := [(5, .ref q9), (0, .ref (L 0 0)), (1, .int x0), (2, .int x1), (3, .int x2), (4, .ref o)]) hx hb dL_addPlain_23 hl (by decide) rfl (fun ls hl => ?_)
      refine lv_iconst (v := 3) hx hb dL_addPlain_25 (by decide) ?_
      exact m_iret (v := 3) hx hb hr hlocks hV hS (Or.inr (Or.inr (Or.inr (⟨rfl, hxp⟩)))) dL_addPlain_26
  · have ho1 : h1 o = some (.inl (cs.2.1, 1, .inr (.inl f))) := by
      rcases hp with ⟨_, _, _, _, ⟨_, _, k9⟩, _⟩
      exact (k9.out hoP).trans ho
    refine lv_i2l (v := r.toInt64) hx hb dL_addPlain_10 rfl ?_
    refine m_last (Rp := fun h8 => h8 = mu h1 o (.inl (cs.2.1, 1, .inr (.inl (vp_updL f (0 : Int32).toNatClampNeg r.toInt64))))) hx hb hK hV hS 1 (i := 0) ⟨ho1, rfl⟩ rfl (show vp_in (nI 0) 1 from vp_in_nI (by decide) (by decide)) dL_addPlain_11 (fun h8 H locs hV hS e8 => ?_)
    refine lv_goto (tgt := 27) hx hb dL_addPlain_12 (by decide) ?_
    refine lv_iconst (v := 0) hx hb dL_addPlain_27 (by decide) ?_
    exact m_iret (v := 0) hx hb hr hlocks hV hS (Or.inl ⟨rfl, r, h1, hp, ⟨_, by rw [e8]; exact mu_s _ _ _, rfl⟩, fun a ha => by rw [e8]; exact mu_n ha⟩) dL_addPlain_28
set_option maxHeartbeats 4000000 in
set_option maxRecDepth 100000 in
theorem c_L_addTimed {l : Launch} (hfl : l.stackTraces = false) {D : va_G} {cs : mC} {df : Nat} {P : Nat → Prop} {L : KL} {σ : KS} {hh : mH} (sz : Nat) (hC : CRep cs df P hh L σ hh) (o : Nat) (f : Nat → Int64) (ho : hh o = some (.inl (cs.2.1, 1, .inr (.inl f)))) (hoP : ¬ P o) (x0 : Int32) (x1 : Int32) (x2 : Int32) (x3 : Int32) : Met l yL_addTimed (wsL_addTimed ++ lxW) ({ frames := 8, cells := 2, slots := 216, locals := 219 }) (lPre [.ref (L 0 0), .int x0, .int x1, .int x2, .int x3, .ref o] D cs df hh sz) (va_Qi (fun (r : Int32) (h1 : mH) => (r = 0 ∧ ∃ (v : Int32) (h9 : mH), (∃ g, inR x0 (kN σ 62 1) = some g ∧ ¬ (x1 < 1 ∨ 9 < x1 ∨ x2 < 2 ∨ 60 < x2 ∨ x3 < 1 ∨ 40 < x3) ∧ ((sumI (fun t => if kB σ 36 t = true then 0 else kI σ 39 t) (kN σ 62 2)) + ((1000 * x3 + x2 - 1) / x2) ≤ 1000 * (if kI σ 1 0 < sumI (fun t => kI σ 10 t) (kN σ 62 0) then kI σ 1 0 else sumI (fun t => kI σ 10 t) (kN σ 62 0))) ∧ kN σ 62 2 < 12 ∧ (∃ L1 : KL, L1 0 0 = L 0 0 ∧ CRep cs df P hh L1 (tskS σ g (2520 / x1) (leastS σ g) x3 x2 x3 ((1000 * x3 + x2 - 1) / x2) (kI σ 2 0 + x2)) h9) ∧ v = nI (kN σ 62 2)) ∧ oL cs h1 o v.toInt64 ∧ ∀ a, a ≠ o → h1 a = h9 a) ∨ (r = 1 ∧ (h1 = hh ∧ ("java/lang/IndexOutOfBoundsException" = "java/lang/IndexOutOfBoundsException" ∧ inR x0 (kN σ 62 1) = none ∨ "java/lang/IndexOutOfBoundsException" = "java/lang/IllegalArgumentException" ∧ inR x0 (kN σ 62 1) ≠ none ∧ (x1 < 1 ∨ 9 < x1 ∨ x2 < 2 ∨ 60 < x2 ∨ x3 < 1 ∨ 40 < x3) ∨ "java/lang/IndexOutOfBoundsException" = "java/lang/UnsupportedOperationException" ∧ inR x0 (kN σ 62 1) ≠ none ∧ ¬ (x1 < 1 ∨ 9 < x1 ∨ x2 < 2 ∨ 60 < x2 ∨ x3 < 1 ∨ 40 < x3) ∧ ¬ ((sumI (fun t => if kB σ 36 t = true then 0 else kI σ 39 t) (kN σ 62 2)) + ((1000 * x3 + x2 - 1) / x2) ≤ 1000 * (if kI σ 1 0 < sumI (fun t => kI σ 10 t) (kN σ 62 0) then kI σ 1 0 else sumI (fun t => kI σ 10 t) (kN σ 62 0))) ∨ "java/lang/IndexOutOfBoundsException" = "java/lang/IllegalStateException" ∧ inR x0 (kN σ 62 1) ≠ none ∧ ¬ (x1 < 1 ∨ 9 < x1 ∨ x2 < 2 ∨ 60 < x2 ∨ x3 < 1 ∨ 40 < x3) ∧ ((sumI (fun t => if kB σ 36 t = true then 0 else kI σ 39 t) (kN σ 62 2)) + ((1000 * x3 + x2 - 1) / x2) ≤ 1000 * (if kI σ 1 0 < sumI (fun t => kI σ 10 t) (kN σ 62 0) then kI σ 1 0 else sumI (fun t => kI σ 10 t) (kN σ 62 0))) ∧ ¬ kN σ 62 2 < 12))) ∨ (r = 2 ∧ (h1 = hh ∧ ("java/lang/IllegalArgumentException" = "java/lang/IndexOutOfBoundsException" ∧ inR x0 (kN σ 62 1) = none ∨ "java/lang/IllegalArgumentException" = "java/lang/IllegalArgumentException" ∧ inR x0 (kN σ 62 1) ≠ none ∧ (x1 < 1 ∨ 9 < x1 ∨ x2 < 2 ∨ 60 < x2 ∨ x3 < 1 ∨ 40 < x3) ∨ "java/lang/IllegalArgumentException" = "java/lang/UnsupportedOperationException" ∧ inR x0 (kN σ 62 1) ≠ none ∧ ¬ (x1 < 1 ∨ 9 < x1 ∨ x2 < 2 ∨ 60 < x2 ∨ x3 < 1 ∨ 40 < x3) ∧ ¬ ((sumI (fun t => if kB σ 36 t = true then 0 else kI σ 39 t) (kN σ 62 2)) + ((1000 * x3 + x2 - 1) / x2) ≤ 1000 * (if kI σ 1 0 < sumI (fun t => kI σ 10 t) (kN σ 62 0) then kI σ 1 0 else sumI (fun t => kI σ 10 t) (kN σ 62 0))) ∨ "java/lang/IllegalArgumentException" = "java/lang/IllegalStateException" ∧ inR x0 (kN σ 62 1) ≠ none ∧ ¬ (x1 < 1 ∨ 9 < x1 ∨ x2 < 2 ∨ 60 < x2 ∨ x3 < 1 ∨ 40 < x3) ∧ ((sumI (fun t => if kB σ 36 t = true then 0 else kI σ 39 t) (kN σ 62 2)) + ((1000 * x3 + x2 - 1) / x2) ≤ 1000 * (if kI σ 1 0 < sumI (fun t => kI σ 10 t) (kN σ 62 0) then kI σ 1 0 else sumI (fun t => kI σ 10 t) (kN σ 62 0))) ∧ ¬ kN σ 62 2 < 12))) ∨ (r = 3 ∧ (h1 = hh ∧ ("java/lang/UnsupportedOperationException" = "java/lang/IndexOutOfBoundsException" ∧ inR x0 (kN σ 62 1) = none ∨ "java/lang/UnsupportedOperationException" = "java/lang/IllegalArgumentException" ∧ inR x0 (kN σ 62 1) ≠ none ∧ (x1 < 1 ∨ 9 < x1 ∨ x2 < 2 ∨ 60 < x2 ∨ x3 < 1 ∨ 40 < x3) ∨ "java/lang/UnsupportedOperationException" = "java/lang/UnsupportedOperationException" ∧ inR x0 (kN σ 62 1) ≠ none ∧ ¬ (x1 < 1 ∨ 9 < x1 ∨ x2 < 2 ∨ 60 < x2 ∨ x3 < 1 ∨ 40 < x3) ∧ ¬ ((sumI (fun t => if kB σ 36 t = true then 0 else kI σ 39 t) (kN σ 62 2)) + ((1000 * x3 + x2 - 1) / x2) ≤ 1000 * (if kI σ 1 0 < sumI (fun t => kI σ 10 t) (kN σ 62 0) then kI σ 1 0 else sumI (fun t => kI σ 10 t) (kN σ 62 0))) ∨ "java/lang/UnsupportedOperationException" = "java/lang/IllegalStateException" ∧ inR x0 (kN σ 62 1) ≠ none ∧ ¬ (x1 < 1 ∨ 9 < x1 ∨ x2 < 2 ∨ 60 < x2 ∨ x3 < 1 ∨ 40 < x3) ∧ ((sumI (fun t => if kB σ 36 t = true then 0 else kI σ 39 t) (kN σ 62 2)) + ((1000 * x3 + x2 - 1) / x2) ≤ 1000 * (if kI σ 1 0 < sumI (fun t => kI σ 10 t) (kN σ 62 0) then kI σ 1 0 else sumI (fun t => kI σ 10 t) (kN σ 62 0))) ∧ ¬ kN σ 62 2 < 12))) ∨ (r = 4 ∧ (h1 = hh ∧ ("java/lang/IllegalStateException" = "java/lang/IndexOutOfBoundsException" ∧ inR x0 (kN σ 62 1) = none ∨ "java/lang/IllegalStateException" = "java/lang/IllegalArgumentException" ∧ inR x0 (kN σ 62 1) ≠ none ∧ (x1 < 1 ∨ 9 < x1 ∨ x2 < 2 ∨ 60 < x2 ∨ x3 < 1 ∨ 40 < x3) ∨ "java/lang/IllegalStateException" = "java/lang/UnsupportedOperationException" ∧ inR x0 (kN σ 62 1) ≠ none ∧ ¬ (x1 < 1 ∨ 9 < x1 ∨ x2 < 2 ∨ 60 < x2 ∨ x3 < 1 ∨ 40 < x3) ∧ ¬ ((sumI (fun t => if kB σ 36 t = true then 0 else kI σ 39 t) (kN σ 62 2)) + ((1000 * x3 + x2 - 1) / x2) ≤ 1000 * (if kI σ 1 0 < sumI (fun t => kI σ 10 t) (kN σ 62 0) then kI σ 1 0 else sumI (fun t => kI σ 10 t) (kN σ 62 0))) ∨ "java/lang/IllegalStateException" = "java/lang/IllegalStateException" ∧ inR x0 (kN σ 62 1) ≠ none ∧ ¬ (x1 < 1 ∨ 9 < x1 ∨ x2 < 2 ∨ 60 < x2 ∨ x3 < 1 ∨ 40 < x3) ∧ ((sumI (fun t => if kB σ 36 t = true then 0 else kI σ 39 t) (kN σ 62 2)) + ((1000 * x3 + x2 - 1) / x2) ≤ 1000 * (if kI σ 1 0 < sumI (fun t => kI σ 10 t) (kN σ 62 0) then kI σ 1 0 else sumI (fun t => kI σ 10 t) (kN σ 62 0))) ∧ ¬ kN σ 62 2 < 12)))) (mB D hh sz) (mA hh sz)) 2 216 (mA hh sz) := by
  refine va_MetW (cc := cL_addTimed) (maxL := 7) (ret := (some .int)) (hh := [(0, 14, 17, 26), (0, 14, 21, 13), (0, 14, 25, 43), (0, 14, 29, 15)]) (by decide) rfl ?_
  intro p e s m args below meth c s₁ B0 hml hv
  obtain ⟨hargs, ⟨hsz, hV, hE⟩, hN⟩ := hv
  subst hsz
  have hx := B0.exec
  have hb := B0.bytes
  have hr := B0.returns
  have hlocks := B0.notSynchronized
  have htsE := atoms_spec (ws := wsL_addTimed ++ lxW) B0.pre
  have hts : ∀ w ∈ wsL_addTimed, w.before args s = true := fun w h => htsE w (List.mem_append_left _ h)
  have hown : s.vm.findClass RL = some m.cls := findClass_of_methodNamed B0.named
  have hK := hE.1.1
  have hA : ∀ q : Nat, s.heap.size ≤ q → mA hh s.heap.size q := mA.top
  have hS : va_S (mA hh s.heap.size) s.heap s.heap [] := va_S.rf
  have htab : c.exceptionTable.toList = tableOf [(0, 14, 17, 26), (0, 14, 21, 13), (0, 14, 25, 43), (0, 14, 29, 15)] := vx_table (x := objectInit) B0 (hts (.codeWith yL_addTimed cL_addTimed 7 (some .int) [(0, 14, 17, 26), (0, 14, 21, 13), (0, 14, 25, 43), (0, 14, 29, 15)]) (by decide +kernel))
  have hl := lv_entry ([.ref (L 0 0), .int x0, .int x1, .int x2, .int x3, .ref o]) (n := 7) (by exact Nat.le_of_ble_eq_true rfl)
  have hent := lg_entry_eq m ([.ref (L 0 0), .int x0, .int x1, .int x2, .int x3, .ref o]) 7
  rw [← hargs] at hent
  rw [hent]
  generalize (lg_sl ([.ref (L 0 0), .int x0, .int x1, .int x2, .int x3, .ref o]) ++ List.replicate (7 - (lg_sl ([.ref (L 0 0), .int x0, .int x1, .int x2, .int x3, .ref o])).length) Slot.unset).toArray = ls at hl ⊢
  replace hl : lv_has ls 7 [(0, .ref (L 0 0)), (1, .int x0), (2, .int x1), (3, .int x2), (4, .int x3), (5, .ref o)] := hl
  refine lv_aload hx hb dL_addTimed_0 (lv_at hl 5 rfl) ?_
  refine lv_iconst (v := 0) hx hb dL_addTimed_2 (by decide) ?_
  refine lv_aload_n hx hb dL_addTimed_3 rfl (lv_at hl 0 rfl) ?_
  refine lv_iload_n hx hb dL_addTimed_4 rfl (lv_at hl 1 rfl) ?_
  refine lv_iload_n hx hb dL_addTimed_5 rfl (lv_at hl 2 rfl) ?_
  refine lv_iload_n hx hb dL_addTimed_6 rfl (lv_at hl 3 rfl) ?_
  refine lv_iload hx hb dL_addTimed_7 (lv_at hl 4 rfl) ?_
  refine m_xcalli (vx_runV (As := [.int x0, .int x1, .int x2, .int x3]) (rest := [.int 0, .ref o]) ⟨hx, hb, hml, hown, hts⟩ (c_X4_addTimed (l := l) hfl (s.heap.size) hC x0 x1 x2 x3 ) (cwV 4 hts gL_addTimed_X4_addTimed rfl rfl rfl (by decide +kernel) ⟨by decide, by decide⟩) (m_preV (r := (RX4, TX4, 11)) hE hV hS hA (hC.at (k := 0) (i := 0) rfl) rfl) rfl rfl hl.1 rfl (lv_room (by exact Nat.le_of_ble_eq_true rfl)) dL_addTimed_9 ⟨by decide, by decide⟩) hV hS hA (fun E ce q9 h1 H locs hV hS hxp _ g7 g8 g9 => ?_) (fun r h1 H locs hV hS hp _ => ?_)
  · have hE9 : E = "java/lang/IndexOutOfBoundsException" ∨ E = "java/lang/IllegalArgumentException" ∨ E = "java/lang/UnsupportedOperationException" ∨ E = "java/lang/IllegalStateException" := hxp.2.elim (fun z => Or.inl z.1) (fun z => Or.inr (z.elim (fun z => Or.inl z.1) (fun z => Or.inr (z.elim (fun z => Or.inl z.1) (fun z => Or.inr z.1)))))
    rcases hE9 with rfl | rfl | rfl | rfl
    · refine vx_catch (name := "java/lang/IndexOutOfBoundsException") hown [] ⟨0, 14, 17, 26⟩ [⟨0, 14, 21, 13⟩, ⟨0, 14, 25, 43⟩, ⟨0, 14, 29, 15⟩] htab (fun _ z => nomatch z) (by decide) (by decide) (htsE (.classLink RL 26 "java/lang/IndexOutOfBoundsException") (List.mem_append_right _ (by decide +kernel))) (va_Nw.use rfl (hE.1.2.2.2.2.2.2.2.2 (.castable "java/lang/IndexOutOfBoundsException" "java/lang/IndexOutOfBoundsException") (by decide +kernel))) g7 g8 g9 ?_
      refine lv_astore (lv' := [(6, .ref q9), (0, .ref (L 0 0)), (1, .int x0), (2, .int x1), (3, .int x2), (4, .int x3), (5, .ref o)]) hx hb dL_addTimed_17 hl (by decide) rfl (fun ls hl => ?_)
      refine lv_iconst (v := 1) hx hb dL_addTimed_19 (by decide) ?_
      exact m_iret (v := 1) hx hb hr hlocks hV hS (Or.inr (Or.inl ⟨rfl, hxp⟩)) dL_addTimed_20
    · refine vx_catch (name := "java/lang/IllegalArgumentException") hown [⟨0, 14, 17, 26⟩] ⟨0, 14, 21, 13⟩ [⟨0, 14, 25, 43⟩, ⟨0, 14, 29, 15⟩] htab (List.forall_mem_cons.mpr ⟨Or.inr ⟨by decide, "java/lang/IndexOutOfBoundsException", htsE (.classLink RL 26 "java/lang/IndexOutOfBoundsException") (List.mem_append_right _ (by decide +kernel)), hN ("java/lang/IllegalArgumentException", "java/lang/IndexOutOfBoundsException") (List.mem_of_getElem? (i := 1) rfl)⟩, (fun _ z => nomatch z)⟩) (by decide) (by decide) (htsE (.classLink RL 13 "java/lang/IllegalArgumentException") (List.mem_append_right _ (by decide +kernel))) (va_Nw.use rfl (hE.1.2.2.2.2.2.2.2.2 (.castable "java/lang/IllegalArgumentException" "java/lang/IllegalArgumentException") (by decide +kernel))) g7 g8 g9 ?_
      refine lv_astore (lv' := [(6, .ref q9), (0, .ref (L 0 0)), (1, .int x0), (2, .int x1), (3, .int x2), (4, .int x3), (5, .ref o)]) hx hb dL_addTimed_21 hl (by decide) rfl (fun ls hl => ?_)
      refine lv_iconst (v := 2) hx hb dL_addTimed_23 (by decide) ?_
      exact m_iret (v := 2) hx hb hr hlocks hV hS (Or.inr (Or.inr (Or.inl ⟨rfl, hxp⟩))) dL_addTimed_24
    · refine vx_catch (name := "java/lang/UnsupportedOperationException") hown [⟨0, 14, 17, 26⟩, ⟨0, 14, 21, 13⟩] ⟨0, 14, 25, 43⟩ [⟨0, 14, 29, 15⟩] htab (List.forall_mem_cons.mpr ⟨Or.inr ⟨by decide, "java/lang/IndexOutOfBoundsException", htsE (.classLink RL 26 "java/lang/IndexOutOfBoundsException") (List.mem_append_right _ (by decide +kernel)), hN ("java/lang/UnsupportedOperationException", "java/lang/IndexOutOfBoundsException") (List.mem_of_getElem? (i := 3) rfl)⟩, (List.forall_mem_cons.mpr ⟨Or.inr ⟨by decide, "java/lang/IllegalArgumentException", htsE (.classLink RL 13 "java/lang/IllegalArgumentException") (List.mem_append_right _ (by decide +kernel)), hN ("java/lang/UnsupportedOperationException", "java/lang/IllegalArgumentException") (List.mem_of_getElem? (i := 4) rfl)⟩, (fun _ z => nomatch z)⟩)⟩) (by decide) (by decide) (htsE (.classLink RL 43 "java/lang/UnsupportedOperationException") (List.mem_append_right _ (by decide +kernel))) (va_Nw.use rfl (hE.1.2.2.2.2.2.2.2.2 (.castable "java/lang/UnsupportedOperationException" "java/lang/UnsupportedOperationException") (by decide +kernel))) g7 g8 g9 ?_
      refine lv_astore (lv' := [(6, .ref q9), (0, .ref (L 0 0)), (1, .int x0), (2, .int x1), (3, .int x2), (4, .int x3), (5, .ref o)]) hx hb dL_addTimed_25 hl (by decide) rfl (fun ls hl => ?_)
      refine lv_iconst (v := 3) hx hb dL_addTimed_27 (by decide) ?_
      exact m_iret (v := 3) hx hb hr hlocks hV hS (Or.inr (Or.inr (Or.inr (Or.inl ⟨rfl, hxp⟩)))) dL_addTimed_28
    · refine vx_catch (name := "java/lang/IllegalStateException") hown [⟨0, 14, 17, 26⟩, ⟨0, 14, 21, 13⟩, ⟨0, 14, 25, 43⟩] ⟨0, 14, 29, 15⟩ [] htab (List.forall_mem_cons.mpr ⟨Or.inr ⟨by decide, "java/lang/IndexOutOfBoundsException", htsE (.classLink RL 26 "java/lang/IndexOutOfBoundsException") (List.mem_append_right _ (by decide +kernel)), hN ("java/lang/IllegalStateException", "java/lang/IndexOutOfBoundsException") (List.mem_of_getElem? (i := 2) rfl)⟩, (List.forall_mem_cons.mpr ⟨Or.inr ⟨by decide, "java/lang/IllegalArgumentException", htsE (.classLink RL 13 "java/lang/IllegalArgumentException") (List.mem_append_right _ (by decide +kernel)), hN ("java/lang/IllegalStateException", "java/lang/IllegalArgumentException") (List.mem_of_getElem? (i := 0) rfl)⟩, (List.forall_mem_cons.mpr ⟨Or.inr ⟨by decide, "java/lang/UnsupportedOperationException", htsE (.classLink RL 43 "java/lang/UnsupportedOperationException") (List.mem_append_right _ (by decide +kernel)), hN ("java/lang/IllegalStateException", "java/lang/UnsupportedOperationException") (List.mem_of_getElem? (i := 5) rfl)⟩, (fun _ z => nomatch z)⟩)⟩)⟩) (by decide) (by decide) (htsE (.classLink RL 15 "java/lang/IllegalStateException") (List.mem_append_right _ (by decide +kernel))) (va_Nw.use rfl (hE.1.2.2.2.2.2.2.2.2 (.castable "java/lang/IllegalStateException" "java/lang/IllegalStateException") (by decide +kernel))) g7 g8 g9 ?_
      refine lv_astore (lv' := [(6, .ref q9), (0, .ref (L 0 0)), (1, .int x0), (2, .int x1), (3, .int x2), (4, .int x3), (5, .ref o)]) hx hb dL_addTimed_29 hl (by decide) rfl (fun ls hl => ?_)
      refine lv_iconst (v := 4) hx hb dL_addTimed_31 (by decide) ?_
      exact m_iret (v := 4) hx hb hr hlocks hV hS (Or.inr (Or.inr (Or.inr (Or.inr (⟨rfl, hxp⟩))))) dL_addTimed_32
  · have ho1 : h1 o = some (.inl (cs.2.1, 1, .inr (.inl f))) := by
      rcases hp with ⟨_, _, _, _, _, ⟨_, _, k9⟩, _⟩
      exact (k9.out hoP).trans ho
    refine lv_i2l (v := r.toInt64) hx hb dL_addTimed_12 rfl ?_
    refine m_last (Rp := fun h8 => h8 = mu h1 o (.inl (cs.2.1, 1, .inr (.inl (vp_updL f (0 : Int32).toNatClampNeg r.toInt64))))) hx hb hK hV hS 1 (i := 0) ⟨ho1, rfl⟩ rfl (show vp_in (nI 0) 1 from vp_in_nI (by decide) (by decide)) dL_addTimed_13 (fun h8 H locs hV hS e8 => ?_)
    refine lv_goto (tgt := 33) hx hb dL_addTimed_14 (by decide) ?_
    refine lv_iconst (v := 0) hx hb dL_addTimed_33 (by decide) ?_
    exact m_iret (v := 0) hx hb hr hlocks hV hS (Or.inl ⟨rfl, r, h1, hp, ⟨_, by rw [e8]; exact mu_s _ _ _, rfl⟩, fun a ha => by rw [e8]; exact mu_n ha⟩) dL_addTimed_34
set_option maxHeartbeats 4000000 in
set_option maxRecDepth 100000 in
theorem c_L_end {l : Launch} (hfl : l.stackTraces = false) {D : va_G} {cs : mC} {df : Nat} {P : Nat → Prop} {L : KL} {σ : KS} {hh : mH} (sz : Nat) (hC : CRep cs df P hh L σ hh) (o : Nat) (f : Nat → Int64) (ho : hh o = some (.inl (cs.2.1, 1, .inr (.inl f)))) (hoP : ¬ P o) (x0 : Int32) : Met l yL_end (wsL_end ++ lxW) ({ frames := 7, cells := 1, slots := 6, locals := 153 }) (lPre [.ref (L 0 0), .int x0, .ref o] D cs df hh sz) (va_Qi (fun (r : Int32) (h1 : mH) => (r = 0 ∧ ∃ (v : Int32) (h9 : mH), (∃ t, inR x0 (kN σ 62 2) = some t ∧ kB σ 36 t = false ∧ CRep cs df P hh L (endS σ t) h9 ∧ v = kI σ 34 t) ∧ oL cs h1 o v.toInt64 ∧ ∀ a, a ≠ o → h1 a = h9 a) ∨ (r = 1 ∧ (h1 = hh ∧ ("java/util/NoSuchElementException" = "java/util/NoSuchElementException" ∧ inR x0 (kN σ 62 2) = none ∨ "java/util/NoSuchElementException" = "java/lang/IllegalStateException" ∧ ∃ t, inR x0 (kN σ 62 2) = some t ∧ kB σ 36 t = true))) ∨ (r = 2 ∧ (h1 = hh ∧ ("java/lang/IllegalStateException" = "java/util/NoSuchElementException" ∧ inR x0 (kN σ 62 2) = none ∨ "java/lang/IllegalStateException" = "java/lang/IllegalStateException" ∧ ∃ t, inR x0 (kN σ 62 2) = some t ∧ kB σ 36 t = true)))) (mB D hh sz) (mA hh sz)) 1 6 (mA hh sz) := by
  refine va_MetW (cc := cL_end) (maxL := 4) (ret := (some .int)) (hh := [(0, 9, 12, 48), (0, 9, 15, 15)]) (by decide) rfl ?_
  intro p e s m args below meth c s₁ B0 hml hv
  obtain ⟨hargs, ⟨hsz, hV, hE⟩, hN⟩ := hv
  subst hsz
  have hx := B0.exec
  have hb := B0.bytes
  have hr := B0.returns
  have hlocks := B0.notSynchronized
  have htsE := atoms_spec (ws := wsL_end ++ lxW) B0.pre
  have hts : ∀ w ∈ wsL_end, w.before args s = true := fun w h => htsE w (List.mem_append_left _ h)
  have hown : s.vm.findClass RL = some m.cls := findClass_of_methodNamed B0.named
  have hK := hE.1.1
  have hA : ∀ q : Nat, s.heap.size ≤ q → mA hh s.heap.size q := mA.top
  have hS : va_S (mA hh s.heap.size) s.heap s.heap [] := va_S.rf
  have htab : c.exceptionTable.toList = tableOf [(0, 9, 12, 48), (0, 9, 15, 15)] := vx_table (x := objectInit) B0 (hts (.codeWith yL_end cL_end 4 (some .int) [(0, 9, 12, 48), (0, 9, 15, 15)]) (by decide +kernel))
  have hl := lv_entry ([.ref (L 0 0), .int x0, .ref o]) (n := 4) (by exact Nat.le_of_ble_eq_true rfl)
  have hent := lg_entry_eq m ([.ref (L 0 0), .int x0, .ref o]) 4
  rw [← hargs] at hent
  rw [hent]
  generalize (lg_sl ([.ref (L 0 0), .int x0, .ref o]) ++ List.replicate (4 - (lg_sl ([.ref (L 0 0), .int x0, .ref o])).length) Slot.unset).toArray = ls at hl ⊢
  replace hl : lv_has ls 4 [(0, .ref (L 0 0)), (1, .int x0), (2, .ref o)] := hl
  refine lv_aload_n hx hb dL_end_0 rfl (lv_at hl 2 rfl) ?_
  refine lv_iconst (v := 0) hx hb dL_end_1 (by decide) ?_
  refine lv_aload_n hx hb dL_end_2 rfl (lv_at hl 0 rfl) ?_
  refine lv_iload_n hx hb dL_end_3 rfl (lv_at hl 1 rfl) ?_
  refine m_xcalli (vx_runV (As := [.int x0]) (rest := [.int 0, .ref o]) ⟨hx, hb, hml, hown, hts⟩ (c_X4_end (l := l) hfl (s.heap.size) hC x0 ) (cwV 1 hts gL_end_X4_end rfl rfl rfl (by decide +kernel) ⟨by decide, by decide⟩) (m_preV (r := (RX4, TX4, 11)) hE hV hS hA (hC.at (k := 0) (i := 0) rfl) rfl) rfl rfl hl.1 rfl (lv_room (by exact Nat.le_of_ble_eq_true rfl)) dL_end_4 ⟨by decide, by decide⟩) hV hS hA (fun E ce q9 h1 H locs hV hS hxp _ g7 g8 g9 => ?_) (fun r h1 H locs hV hS hp _ => ?_)
  · have hE9 : E = "java/util/NoSuchElementException" ∨ E = "java/lang/IllegalStateException" := hxp.2.elim (fun z => Or.inl z.1) (fun z => Or.inr z.1)
    rcases hE9 with rfl | rfl
    · refine vx_catch (name := "java/util/NoSuchElementException") hown [] ⟨0, 9, 12, 48⟩ [⟨0, 9, 15, 15⟩] htab (fun _ z => nomatch z) (by decide) (by decide) (htsE (.classLink RL 48 "java/util/NoSuchElementException") (List.mem_append_right _ (by decide +kernel))) (va_Nw.use rfl (hE.1.2.2.2.2.2.2.2.2 (.castable "java/util/NoSuchElementException" "java/util/NoSuchElementException") (by decide +kernel))) g7 g8 g9 ?_
      refine lv_astore_n (lv' := [(3, .ref q9), (0, .ref (L 0 0)), (1, .int x0), (2, .ref o)]) hx hb dL_end_12 rfl hl (by decide) rfl (fun ls hl => ?_)
      refine lv_iconst (v := 1) hx hb dL_end_13 (by decide) ?_
      exact m_iret (v := 1) hx hb hr hlocks hV hS (Or.inr (Or.inl ⟨rfl, hxp⟩)) dL_end_14
    · refine vx_catch (name := "java/lang/IllegalStateException") hown [⟨0, 9, 12, 48⟩] ⟨0, 9, 15, 15⟩ [] htab (List.forall_mem_cons.mpr ⟨Or.inr ⟨by decide, "java/util/NoSuchElementException", htsE (.classLink RL 48 "java/util/NoSuchElementException") (List.mem_append_right _ (by decide +kernel)), hN ("java/lang/IllegalStateException", "java/util/NoSuchElementException") (List.mem_of_getElem? (i := 6) rfl)⟩, (fun _ z => nomatch z)⟩) (by decide) (by decide) (htsE (.classLink RL 15 "java/lang/IllegalStateException") (List.mem_append_right _ (by decide +kernel))) (va_Nw.use rfl (hE.1.2.2.2.2.2.2.2.2 (.castable "java/lang/IllegalStateException" "java/lang/IllegalStateException") (by decide +kernel))) g7 g8 g9 ?_
      refine lv_astore_n (lv' := [(3, .ref q9), (0, .ref (L 0 0)), (1, .int x0), (2, .ref o)]) hx hb dL_end_15 rfl hl (by decide) rfl (fun ls hl => ?_)
      refine lv_iconst (v := 2) hx hb dL_end_16 (by decide) ?_
      exact m_iret (v := 2) hx hb hr hlocks hV hS (Or.inr (Or.inr (⟨rfl, hxp⟩))) dL_end_17
  · have ho1 : h1 o = some (.inl (cs.2.1, 1, .inr (.inl f))) := by
      rcases hp with ⟨_, _, _, k9, _⟩
      exact (k9.out hoP).trans ho
    refine lv_i2l (v := r.toInt64) hx hb dL_end_7 rfl ?_
    refine m_last (Rp := fun h8 => h8 = mu h1 o (.inl (cs.2.1, 1, .inr (.inl (vp_updL f (0 : Int32).toNatClampNeg r.toInt64))))) hx hb hK hV hS 1 (i := 0) ⟨ho1, rfl⟩ rfl (show vp_in (nI 0) 1 from vp_in_nI (by decide) (by decide)) dL_end_8 (fun h8 H locs hV hS e8 => ?_)
    refine lv_goto (tgt := 18) hx hb dL_end_9 (by decide) ?_
    refine lv_iconst (v := 0) hx hb dL_end_18 (by decide) ?_
    exact m_iret (v := 0) hx hb hr hlocks hV hS (Or.inl ⟨rfl, r, h1, hp, ⟨_, by rw [e8]; exact mu_s _ _ _, rfl⟩, fun a ha => by rw [e8]; exact mu_n ha⟩) dL_end_19
set_option maxHeartbeats 4000000 in
set_option maxRecDepth 100000 in
theorem c_L_left {l : Launch} (hfl : l.stackTraces = false) {D : va_G} {cs : mC} {df : Nat} {P : Nat → Prop} {L : KL} {σ : KS} {hh : mH} (sz : Nat) (hC : CRep cs df P hh L σ hh) (o : Nat) (f : Nat → Int64) (ho : hh o = some (.inl (cs.2.1, 1, .inr (.inl f)))) (hoP : ¬ P o) (x0 : Int32) : Met l yL_left (wsL_left ++ lxW) ({ frames := 7, cells := 1, slots := 6, locals := 112 }) (lPre [.ref (L 0 0), .int x0, .ref o] D cs df hh sz) (va_Qi (fun (r : Int32) (h1 : mH) => (r = 0 ∧ ∃ (v : Int32) (h9 : mH), (∃ t, inR x0 (kN σ 62 2) = some t ∧ h9 = hh ∧ v = kI σ 34 t) ∧ oL cs h1 o v.toInt64 ∧ ∀ a, a ≠ o → h1 a = h9 a) ∨ (r = 1 ∧ ("java/util/NoSuchElementException" = "java/util/NoSuchElementException" ∧ h1 = hh ∧ inR x0 (kN σ 62 2) = none))) (mB D hh sz) (mA hh sz)) 1 6 (mA hh sz) := by
  refine va_MetW (cc := cL_left) (maxL := 4) (ret := (some .int)) (hh := [(0, 9, 12, 48)]) (by decide) rfl ?_
  intro p e s m args below meth c s₁ B0 hml hv
  obtain ⟨hargs, ⟨hsz, hV, hE⟩, hN⟩ := hv
  subst hsz
  have hx := B0.exec
  have hb := B0.bytes
  have hr := B0.returns
  have hlocks := B0.notSynchronized
  have htsE := atoms_spec (ws := wsL_left ++ lxW) B0.pre
  have hts : ∀ w ∈ wsL_left, w.before args s = true := fun w h => htsE w (List.mem_append_left _ h)
  have hown : s.vm.findClass RL = some m.cls := findClass_of_methodNamed B0.named
  have hK := hE.1.1
  have hA : ∀ q : Nat, s.heap.size ≤ q → mA hh s.heap.size q := mA.top
  have hS : va_S (mA hh s.heap.size) s.heap s.heap [] := va_S.rf
  have htab : c.exceptionTable.toList = tableOf [(0, 9, 12, 48)] := vx_table (x := objectInit) B0 (hts (.codeWith yL_left cL_left 4 (some .int) [(0, 9, 12, 48)]) (by decide +kernel))
  have hl := lv_entry ([.ref (L 0 0), .int x0, .ref o]) (n := 4) (by exact Nat.le_of_ble_eq_true rfl)
  have hent := lg_entry_eq m ([.ref (L 0 0), .int x0, .ref o]) 4
  rw [← hargs] at hent
  rw [hent]
  generalize (lg_sl ([.ref (L 0 0), .int x0, .ref o]) ++ List.replicate (4 - (lg_sl ([.ref (L 0 0), .int x0, .ref o])).length) Slot.unset).toArray = ls at hl ⊢
  replace hl : lv_has ls 4 [(0, .ref (L 0 0)), (1, .int x0), (2, .ref o)] := hl
  refine lv_aload_n hx hb dL_left_0 rfl (lv_at hl 2 rfl) ?_
  refine lv_iconst (v := 0) hx hb dL_left_1 (by decide) ?_
  refine lv_aload_n hx hb dL_left_2 rfl (lv_at hl 0 rfl) ?_
  refine lv_iload_n hx hb dL_left_3 rfl (lv_at hl 1 rfl) ?_
  refine m_xcalli (vx_runV (As := [.int x0]) (rest := [.int 0, .ref o]) ⟨hx, hb, hml, hown, hts⟩ (c_X4_left (l := l) hfl (s.heap.size) hC x0 ) (cwV 1 hts gL_left_X4_left rfl rfl rfl (by decide +kernel) ⟨by decide, by decide⟩) (m_preV (r := (RX4, TX4, 11)) hE hV hS hA (hC.at (k := 0) (i := 0) rfl) rfl) rfl rfl hl.1 rfl (lv_room (by exact Nat.le_of_ble_eq_true rfl)) dL_left_4 ⟨by decide, by decide⟩) hV hS hA (fun E ce q9 h1 H locs hV hS hxp _ g7 g8 g9 => ?_) (fun r h1 H locs hV hS hp _ => ?_)
  · have hE9 : E = "java/util/NoSuchElementException" := hxp.1
    rcases hE9 with rfl
    refine vx_catch (name := "java/util/NoSuchElementException") hown [] ⟨0, 9, 12, 48⟩ [] htab (fun _ z => nomatch z) (by decide) (by decide) (htsE (.classLink RL 48 "java/util/NoSuchElementException") (List.mem_append_right _ (by decide +kernel))) (va_Nw.use rfl (hE.1.2.2.2.2.2.2.2.2 (.castable "java/util/NoSuchElementException" "java/util/NoSuchElementException") (by decide +kernel))) g7 g8 g9 ?_
    refine lv_astore_n (lv' := [(3, .ref q9), (0, .ref (L 0 0)), (1, .int x0), (2, .ref o)]) hx hb dL_left_12 rfl hl (by decide) rfl (fun ls hl => ?_)
    refine lv_iconst (v := 1) hx hb dL_left_13 (by decide) ?_
    exact m_iret (v := 1) hx hb hr hlocks hV hS (Or.inr (⟨rfl, hxp⟩)) dL_left_14
  · have ho1 : h1 o = some (.inl (cs.2.1, 1, .inr (.inl f))) := by
      rcases hp with ⟨_, _, e9, _⟩
      rw [e9]; exact ho
    refine lv_i2l (v := r.toInt64) hx hb dL_left_7 rfl ?_
    refine m_last (Rp := fun h8 => h8 = mu h1 o (.inl (cs.2.1, 1, .inr (.inl (vp_updL f (0 : Int32).toNatClampNeg r.toInt64))))) hx hb hK hV hS 1 (i := 0) ⟨ho1, rfl⟩ rfl (show vp_in (nI 0) 1 from vp_in_nI (by decide) (by decide)) dL_left_8 (fun h8 H locs hV hS e8 => ?_)
    refine lv_goto (tgt := 15) hx hb dL_left_9 (by decide) ?_
    refine lv_iconst (v := 0) hx hb dL_left_15 (by decide) ?_
    exact m_iret (v := 0) hx hb hr hlocks hV hS (Or.inl ⟨rfl, r, h1, hp, ⟨_, by rw [e8]; exact mu_s _ _ _, rfl⟩, fun a ha => by rw [e8]; exact mu_n ha⟩) dL_left_16
set_option maxHeartbeats 4000000 in
set_option maxRecDepth 100000 in
theorem c_L_stateOf {l : Launch} (hfl : l.stackTraces = false) {D : va_G} {cs : mC} {df : Nat} {P : Nat → Prop} {L : KL} {σ : KS} {hh : mH} (sz : Nat) (hC : CRep cs df P hh L σ hh) (o : Nat) (f : Nat → Int64) (ho : hh o = some (.inl (cs.2.1, 1, .inr (.inl f)))) (hoP : ¬ P o) (x0 : Int32) : Met l yL_stateOf (wsL_stateOf ++ lxW) ({ frames := 7, cells := 1, slots := 6, locals := 112 }) (lPre [.ref (L 0 0), .int x0, .ref o] D cs df hh sz) (va_Qi (fun (r : Int32) (h1 : mH) => (r = 0 ∧ ∃ (v : Int32) (h9 : mH), (∃ t, inR x0 (kN σ 62 2) = some t ∧ h9 = hh ∧ v = stS σ t) ∧ oL cs h1 o v.toInt64 ∧ ∀ a, a ≠ o → h1 a = h9 a) ∨ (r = 1 ∧ ("java/util/NoSuchElementException" = "java/util/NoSuchElementException" ∧ h1 = hh ∧ inR x0 (kN σ 62 2) = none))) (mB D hh sz) (mA hh sz)) 1 6 (mA hh sz) := by
  refine va_MetW (cc := cL_stateOf) (maxL := 4) (ret := (some .int)) (hh := [(0, 9, 12, 48)]) (by decide) rfl ?_
  intro p e s m args below meth c s₁ B0 hml hv
  obtain ⟨hargs, ⟨hsz, hV, hE⟩, hN⟩ := hv
  subst hsz
  have hx := B0.exec
  have hb := B0.bytes
  have hr := B0.returns
  have hlocks := B0.notSynchronized
  have htsE := atoms_spec (ws := wsL_stateOf ++ lxW) B0.pre
  have hts : ∀ w ∈ wsL_stateOf, w.before args s = true := fun w h => htsE w (List.mem_append_left _ h)
  have hown : s.vm.findClass RL = some m.cls := findClass_of_methodNamed B0.named
  have hK := hE.1.1
  have hA : ∀ q : Nat, s.heap.size ≤ q → mA hh s.heap.size q := mA.top
  have hS : va_S (mA hh s.heap.size) s.heap s.heap [] := va_S.rf
  have htab : c.exceptionTable.toList = tableOf [(0, 9, 12, 48)] := vx_table (x := objectInit) B0 (hts (.codeWith yL_stateOf cL_stateOf 4 (some .int) [(0, 9, 12, 48)]) (by decide +kernel))
  have hl := lv_entry ([.ref (L 0 0), .int x0, .ref o]) (n := 4) (by exact Nat.le_of_ble_eq_true rfl)
  have hent := lg_entry_eq m ([.ref (L 0 0), .int x0, .ref o]) 4
  rw [← hargs] at hent
  rw [hent]
  generalize (lg_sl ([.ref (L 0 0), .int x0, .ref o]) ++ List.replicate (4 - (lg_sl ([.ref (L 0 0), .int x0, .ref o])).length) Slot.unset).toArray = ls at hl ⊢
  replace hl : lv_has ls 4 [(0, .ref (L 0 0)), (1, .int x0), (2, .ref o)] := hl
  refine lv_aload_n hx hb dL_stateOf_0 rfl (lv_at hl 2 rfl) ?_
  refine lv_iconst (v := 0) hx hb dL_stateOf_1 (by decide) ?_
  refine lv_aload_n hx hb dL_stateOf_2 rfl (lv_at hl 0 rfl) ?_
  refine lv_iload_n hx hb dL_stateOf_3 rfl (lv_at hl 1 rfl) ?_
  refine m_xcalli (vx_runV (As := [.int x0]) (rest := [.int 0, .ref o]) ⟨hx, hb, hml, hown, hts⟩ (c_X4_stateOf (l := l) hfl (s.heap.size) hC x0 ) (cwV 1 hts gL_stateOf_X4_stateOf rfl rfl rfl (by decide +kernel) ⟨by decide, by decide⟩) (m_preV (r := (RX4, TX4, 11)) hE hV hS hA (hC.at (k := 0) (i := 0) rfl) rfl) rfl rfl hl.1 rfl (lv_room (by exact Nat.le_of_ble_eq_true rfl)) dL_stateOf_4 ⟨by decide, by decide⟩) hV hS hA (fun E ce q9 h1 H locs hV hS hxp _ g7 g8 g9 => ?_) (fun r h1 H locs hV hS hp _ => ?_)
  · have hE9 : E = "java/util/NoSuchElementException" := hxp.1
    rcases hE9 with rfl
    refine vx_catch (name := "java/util/NoSuchElementException") hown [] ⟨0, 9, 12, 48⟩ [] htab (fun _ z => nomatch z) (by decide) (by decide) (htsE (.classLink RL 48 "java/util/NoSuchElementException") (List.mem_append_right _ (by decide +kernel))) (va_Nw.use rfl (hE.1.2.2.2.2.2.2.2.2 (.castable "java/util/NoSuchElementException" "java/util/NoSuchElementException") (by decide +kernel))) g7 g8 g9 ?_
    refine lv_astore_n (lv' := [(3, .ref q9), (0, .ref (L 0 0)), (1, .int x0), (2, .ref o)]) hx hb dL_stateOf_12 rfl hl (by decide) rfl (fun ls hl => ?_)
    refine lv_iconst (v := 1) hx hb dL_stateOf_13 (by decide) ?_
    exact m_iret (v := 1) hx hb hr hlocks hV hS (Or.inr (⟨rfl, hxp⟩)) dL_stateOf_14
  · have ho1 : h1 o = some (.inl (cs.2.1, 1, .inr (.inl f))) := by
      rcases hp with ⟨_, _, e9, _⟩
      rw [e9]; exact ho
    refine lv_i2l (v := r.toInt64) hx hb dL_stateOf_7 rfl ?_
    refine m_last (Rp := fun h8 => h8 = mu h1 o (.inl (cs.2.1, 1, .inr (.inl (vp_updL f (0 : Int32).toNatClampNeg r.toInt64))))) hx hb hK hV hS 1 (i := 0) ⟨ho1, rfl⟩ rfl (show vp_in (nI 0) 1 from vp_in_nI (by decide) (by decide)) dL_stateOf_8 (fun h8 H locs hV hS e8 => ?_)
    refine lv_goto (tgt := 15) hx hb dL_stateOf_9 (by decide) ?_
    refine lv_iconst (v := 0) hx hb dL_stateOf_15 (by decide) ?_
    exact m_iret (v := 0) hx hb hr hlocks hV hS (Or.inl ⟨rfl, r, h1, hp, ⟨_, by rw [e8]; exact mu_s _ _ _, rfl⟩, fun a ha => by rw [e8]; exact mu_n ha⟩) dL_stateOf_16
set_option maxHeartbeats 4000000 in
set_option maxRecDepth 100000 in
theorem c_L_timeOf {l : Launch} (hfl : l.stackTraces = false) {D : va_G} {cs : mC} {df : Nat} {P : Nat → Prop} {L : KL} {σ : KS} {hh : mH} (sz : Nat) (hC : CRep cs df P hh L σ hh) (o : Nat) (f : Nat → Int64) (ho : hh o = some (.inl (cs.2.1, 1, .inr (.inl f)))) (hoP : ¬ P o) (x0 : Int32) : Met l yL_timeOf (wsL_timeOf ++ lxW) ({ frames := 7, cells := 1, slots := 6, locals := 112 }) (lPre [.ref (L 0 0), .int x0, .ref o] D cs df hh sz) (va_Qi (fun (r : Int32) (h1 : mH) => (r = 0 ∧ ∃ (v : Int64) (h9 : mH), (∃ t, inR x0 (kN σ 62 2) = some t ∧ h9 = hh ∧ v = kW σ 33 t) ∧ oL cs h1 o v ∧ ∀ a, a ≠ o → h1 a = h9 a) ∨ (r = 1 ∧ ("java/util/NoSuchElementException" = "java/util/NoSuchElementException" ∧ h1 = hh ∧ inR x0 (kN σ 62 2) = none))) (mB D hh sz) (mA hh sz)) 1 6 (mA hh sz) := by
  refine va_MetW (cc := cL_timeOf) (maxL := 4) (ret := (some .int)) (hh := [(0, 8, 11, 48)]) (by decide) rfl ?_
  intro p e s m args below meth c s₁ B0 hml hv
  obtain ⟨hargs, ⟨hsz, hV, hE⟩, hN⟩ := hv
  subst hsz
  have hx := B0.exec
  have hb := B0.bytes
  have hr := B0.returns
  have hlocks := B0.notSynchronized
  have htsE := atoms_spec (ws := wsL_timeOf ++ lxW) B0.pre
  have hts : ∀ w ∈ wsL_timeOf, w.before args s = true := fun w h => htsE w (List.mem_append_left _ h)
  have hown : s.vm.findClass RL = some m.cls := findClass_of_methodNamed B0.named
  have hK := hE.1.1
  have hA : ∀ q : Nat, s.heap.size ≤ q → mA hh s.heap.size q := mA.top
  have hS : va_S (mA hh s.heap.size) s.heap s.heap [] := va_S.rf
  have htab : c.exceptionTable.toList = tableOf [(0, 8, 11, 48)] := vx_table (x := objectInit) B0 (hts (.codeWith yL_timeOf cL_timeOf 4 (some .int) [(0, 8, 11, 48)]) (by decide +kernel))
  have hl := lv_entry ([.ref (L 0 0), .int x0, .ref o]) (n := 4) (by exact Nat.le_of_ble_eq_true rfl)
  have hent := lg_entry_eq m ([.ref (L 0 0), .int x0, .ref o]) 4
  rw [← hargs] at hent
  rw [hent]
  generalize (lg_sl ([.ref (L 0 0), .int x0, .ref o]) ++ List.replicate (4 - (lg_sl ([.ref (L 0 0), .int x0, .ref o])).length) Slot.unset).toArray = ls at hl ⊢
  replace hl : lv_has ls 4 [(0, .ref (L 0 0)), (1, .int x0), (2, .ref o)] := hl
  refine lv_aload_n hx hb dL_timeOf_0 rfl (lv_at hl 2 rfl) ?_
  refine lv_iconst (v := 0) hx hb dL_timeOf_1 (by decide) ?_
  refine lv_aload_n hx hb dL_timeOf_2 rfl (lv_at hl 0 rfl) ?_
  refine lv_iload_n hx hb dL_timeOf_3 rfl (lv_at hl 1 rfl) ?_
  refine m_xcalll (vx_runV (As := [.int x0]) (rest := [.int 0, .ref o]) ⟨hx, hb, hml, hown, hts⟩ (c_X4_timeOf (l := l) hfl (s.heap.size) hC x0 ) (cwV 1 hts gL_timeOf_X4_timeOf rfl rfl rfl (by decide +kernel) ⟨by decide, by decide⟩) (m_preV (r := (RX4, TX4, 11)) hE hV hS hA (hC.at (k := 0) (i := 0) rfl) rfl) rfl rfl hl.1 rfl (lv_room (by exact Nat.le_of_ble_eq_true rfl)) dL_timeOf_4 ⟨by decide, by decide⟩) hV hS hA (fun E ce q9 h1 H locs hV hS hxp _ g7 g8 g9 => ?_) (fun r h1 H locs hV hS hp _ => ?_)
  · have hE9 : E = "java/util/NoSuchElementException" := hxp.1
    rcases hE9 with rfl
    refine vx_catch (name := "java/util/NoSuchElementException") hown [] ⟨0, 8, 11, 48⟩ [] htab (fun _ z => nomatch z) (by decide) (by decide) (htsE (.classLink RL 48 "java/util/NoSuchElementException") (List.mem_append_right _ (by decide +kernel))) (va_Nw.use rfl (hE.1.2.2.2.2.2.2.2.2 (.castable "java/util/NoSuchElementException" "java/util/NoSuchElementException") (by decide +kernel))) g7 g8 g9 ?_
    refine lv_astore_n (lv' := [(3, .ref q9), (0, .ref (L 0 0)), (1, .int x0), (2, .ref o)]) hx hb dL_timeOf_11 rfl hl (by decide) rfl (fun ls hl => ?_)
    refine lv_iconst (v := 1) hx hb dL_timeOf_12 (by decide) ?_
    exact m_iret (v := 1) hx hb hr hlocks hV hS (Or.inr (⟨rfl, hxp⟩)) dL_timeOf_13
  · have ho1 : h1 o = some (.inl (cs.2.1, 1, .inr (.inl f))) := by
      rcases hp with ⟨_, _, e9, _⟩
      rw [e9]; exact ho
    refine m_last (Rp := fun h8 => h8 = mu h1 o (.inl (cs.2.1, 1, .inr (.inl (vp_updL f (0 : Int32).toNatClampNeg r))))) hx hb hK hV hS 1 (i := 0) ⟨ho1, rfl⟩ rfl (show vp_in (nI 0) 1 from vp_in_nI (by decide) (by decide)) dL_timeOf_7 (fun h8 H locs hV hS e8 => ?_)
    refine lv_goto (tgt := 14) hx hb dL_timeOf_8 (by decide) ?_
    refine lv_iconst (v := 0) hx hb dL_timeOf_14 (by decide) ?_
    exact m_iret (v := 0) hx hb hr hlocks hV hS (Or.inl ⟨rfl, r, h1, hp, ⟨_, by rw [e8]; exact mu_s _ _ _, rfl⟩, fun a ha => by rw [e8]; exact mu_n ha⟩) dL_timeOf_15
set_option maxHeartbeats 4000000 in
set_option maxRecDepth 100000 in
theorem c_L_timeOfGroup {l : Launch} (hfl : l.stackTraces = false) {D : va_G} {cs : mC} {df : Nat} {P : Nat → Prop} {L : KL} {σ : KS} {hh : mH} (sz : Nat) (hC : CRep cs df P hh L σ hh) (o : Nat) (f : Nat → Int64) (ho : hh o = some (.inl (cs.2.1, 1, .inr (.inl f)))) (hoP : ¬ P o) (x0 : Int32) : Met l yL_timeOfGroup (wsL_timeOfGroup ++ lxW) ({ frames := 7, cells := 1, slots := 6, locals := 112 }) (lPre [.ref (L 0 0), .int x0, .ref o] D cs df hh sz) (va_Qi (fun (r : Int32) (h1 : mH) => (r = 0 ∧ ∃ (v : Int64) (h9 : mH), (∃ t, inR x0 (kN σ 62 1) = some t ∧ t ≠ 0 ∧ h9 = hh ∧ v = kW σ 23 t) ∧ oL cs h1 o v ∧ ∀ a, a ≠ o → h1 a = h9 a) ∨ (r = 1 ∧ ("java/lang/IndexOutOfBoundsException" = "java/lang/IndexOutOfBoundsException" ∧ h1 = hh ∧ (inR x0 (kN σ 62 1) = none ∨ inR x0 (kN σ 62 1) = some 0)))) (mB D hh sz) (mA hh sz)) 1 6 (mA hh sz) := by
  refine va_MetW (cc := cL_timeOfGroup) (maxL := 4) (ret := (some .int)) (hh := [(0, 8, 11, 26)]) (by decide) rfl ?_
  intro p e s m args below meth c s₁ B0 hml hv
  obtain ⟨hargs, ⟨hsz, hV, hE⟩, hN⟩ := hv
  subst hsz
  have hx := B0.exec
  have hb := B0.bytes
  have hr := B0.returns
  have hlocks := B0.notSynchronized
  have htsE := atoms_spec (ws := wsL_timeOfGroup ++ lxW) B0.pre
  have hts : ∀ w ∈ wsL_timeOfGroup, w.before args s = true := fun w h => htsE w (List.mem_append_left _ h)
  have hown : s.vm.findClass RL = some m.cls := findClass_of_methodNamed B0.named
  have hK := hE.1.1
  have hA : ∀ q : Nat, s.heap.size ≤ q → mA hh s.heap.size q := mA.top
  have hS : va_S (mA hh s.heap.size) s.heap s.heap [] := va_S.rf
  have htab : c.exceptionTable.toList = tableOf [(0, 8, 11, 26)] := vx_table (x := objectInit) B0 (hts (.codeWith yL_timeOfGroup cL_timeOfGroup 4 (some .int) [(0, 8, 11, 26)]) (by decide +kernel))
  have hl := lv_entry ([.ref (L 0 0), .int x0, .ref o]) (n := 4) (by exact Nat.le_of_ble_eq_true rfl)
  have hent := lg_entry_eq m ([.ref (L 0 0), .int x0, .ref o]) 4
  rw [← hargs] at hent
  rw [hent]
  generalize (lg_sl ([.ref (L 0 0), .int x0, .ref o]) ++ List.replicate (4 - (lg_sl ([.ref (L 0 0), .int x0, .ref o])).length) Slot.unset).toArray = ls at hl ⊢
  replace hl : lv_has ls 4 [(0, .ref (L 0 0)), (1, .int x0), (2, .ref o)] := hl
  refine lv_aload_n hx hb dL_timeOfGroup_0 rfl (lv_at hl 2 rfl) ?_
  refine lv_iconst (v := 0) hx hb dL_timeOfGroup_1 (by decide) ?_
  refine lv_aload_n hx hb dL_timeOfGroup_2 rfl (lv_at hl 0 rfl) ?_
  refine lv_iload_n hx hb dL_timeOfGroup_3 rfl (lv_at hl 1 rfl) ?_
  refine m_xcalll (vx_runV (As := [.int x0]) (rest := [.int 0, .ref o]) ⟨hx, hb, hml, hown, hts⟩ (c_X4_timeOfGroup (l := l) hfl (s.heap.size) hC x0 ) (cwV 1 hts gL_timeOfGroup_X4_timeOfGroup rfl rfl rfl (by decide +kernel) ⟨by decide, by decide⟩) (m_preV (r := (RX4, TX4, 11)) hE hV hS hA (hC.at (k := 0) (i := 0) rfl) rfl) rfl rfl hl.1 rfl (lv_room (by exact Nat.le_of_ble_eq_true rfl)) dL_timeOfGroup_4 ⟨by decide, by decide⟩) hV hS hA (fun E ce q9 h1 H locs hV hS hxp _ g7 g8 g9 => ?_) (fun r h1 H locs hV hS hp _ => ?_)
  · have hE9 : E = "java/lang/IndexOutOfBoundsException" := hxp.1
    rcases hE9 with rfl
    refine vx_catch (name := "java/lang/IndexOutOfBoundsException") hown [] ⟨0, 8, 11, 26⟩ [] htab (fun _ z => nomatch z) (by decide) (by decide) (htsE (.classLink RL 26 "java/lang/IndexOutOfBoundsException") (List.mem_append_right _ (by decide +kernel))) (va_Nw.use rfl (hE.1.2.2.2.2.2.2.2.2 (.castable "java/lang/IndexOutOfBoundsException" "java/lang/IndexOutOfBoundsException") (by decide +kernel))) g7 g8 g9 ?_
    refine lv_astore_n (lv' := [(3, .ref q9), (0, .ref (L 0 0)), (1, .int x0), (2, .ref o)]) hx hb dL_timeOfGroup_11 rfl hl (by decide) rfl (fun ls hl => ?_)
    refine lv_iconst (v := 1) hx hb dL_timeOfGroup_12 (by decide) ?_
    exact m_iret (v := 1) hx hb hr hlocks hV hS (Or.inr (⟨rfl, hxp⟩)) dL_timeOfGroup_13
  · have ho1 : h1 o = some (.inl (cs.2.1, 1, .inr (.inl f))) := by
      rcases hp with ⟨_, _, _, e9, _⟩
      rw [e9]; exact ho
    refine m_last (Rp := fun h8 => h8 = mu h1 o (.inl (cs.2.1, 1, .inr (.inl (vp_updL f (0 : Int32).toNatClampNeg r))))) hx hb hK hV hS 1 (i := 0) ⟨ho1, rfl⟩ rfl (show vp_in (nI 0) 1 from vp_in_nI (by decide) (by decide)) dL_timeOfGroup_7 (fun h8 H locs hV hS e8 => ?_)
    refine lv_goto (tgt := 14) hx hb dL_timeOfGroup_8 (by decide) ?_
    refine lv_iconst (v := 0) hx hb dL_timeOfGroup_14 (by decide) ?_
    exact m_iret (v := 0) hx hb hr hlocks hV hS (Or.inl ⟨rfl, r, h1, hp, ⟨_, by rw [e8]; exact mu_s _ _ _, rfl⟩, fun a ha => by rw [e8]; exact mu_n ha⟩) dL_timeOfGroup_15
set_option maxHeartbeats 4000000 in
set_option maxRecDepth 100000 in
theorem c_L_doneBy {l : Launch} (hfl : l.stackTraces = false) {D : va_G} {cs : mC} {df : Nat} {P : Nat → Prop} {L : KL} {σ : KS} {hh : mH} (sz : Nat) (hC : CRep cs df P hh L σ hh) (o : Nat) (f : Nat → Int64) (ho : hh o = some (.inl (cs.2.1, 1, .inr (.inl f)))) (hoP : ¬ P o) (x0 : Int32) : Met l yL_doneBy (wsL_doneBy ++ lxW) ({ frames := 7, cells := 1, slots := 6, locals := 112 }) (lPre [.ref (L 0 0), .int x0, .ref o] D cs df hh sz) (va_Qi (fun (r : Int32) (h1 : mH) => (r = 0 ∧ ∃ (v : Int32) (h9 : mH), (∃ t, inR x0 (kN σ 62 2) = some t ∧ h9 = hh ∧ v = kI σ 35 t) ∧ oL cs h1 o v.toInt64 ∧ ∀ a, a ≠ o → h1 a = h9 a) ∨ (r = 1 ∧ ("java/util/NoSuchElementException" = "java/util/NoSuchElementException" ∧ h1 = hh ∧ inR x0 (kN σ 62 2) = none))) (mB D hh sz) (mA hh sz)) 1 6 (mA hh sz) := by
  refine va_MetW (cc := cL_doneBy) (maxL := 4) (ret := (some .int)) (hh := [(0, 9, 12, 48)]) (by decide) rfl ?_
  intro p e s m args below meth c s₁ B0 hml hv
  obtain ⟨hargs, ⟨hsz, hV, hE⟩, hN⟩ := hv
  subst hsz
  have hx := B0.exec
  have hb := B0.bytes
  have hr := B0.returns
  have hlocks := B0.notSynchronized
  have htsE := atoms_spec (ws := wsL_doneBy ++ lxW) B0.pre
  have hts : ∀ w ∈ wsL_doneBy, w.before args s = true := fun w h => htsE w (List.mem_append_left _ h)
  have hown : s.vm.findClass RL = some m.cls := findClass_of_methodNamed B0.named
  have hK := hE.1.1
  have hA : ∀ q : Nat, s.heap.size ≤ q → mA hh s.heap.size q := mA.top
  have hS : va_S (mA hh s.heap.size) s.heap s.heap [] := va_S.rf
  have htab : c.exceptionTable.toList = tableOf [(0, 9, 12, 48)] := vx_table (x := objectInit) B0 (hts (.codeWith yL_doneBy cL_doneBy 4 (some .int) [(0, 9, 12, 48)]) (by decide +kernel))
  have hl := lv_entry ([.ref (L 0 0), .int x0, .ref o]) (n := 4) (by exact Nat.le_of_ble_eq_true rfl)
  have hent := lg_entry_eq m ([.ref (L 0 0), .int x0, .ref o]) 4
  rw [← hargs] at hent
  rw [hent]
  generalize (lg_sl ([.ref (L 0 0), .int x0, .ref o]) ++ List.replicate (4 - (lg_sl ([.ref (L 0 0), .int x0, .ref o])).length) Slot.unset).toArray = ls at hl ⊢
  replace hl : lv_has ls 4 [(0, .ref (L 0 0)), (1, .int x0), (2, .ref o)] := hl
  refine lv_aload_n hx hb dL_doneBy_0 rfl (lv_at hl 2 rfl) ?_
  refine lv_iconst (v := 0) hx hb dL_doneBy_1 (by decide) ?_
  refine lv_aload_n hx hb dL_doneBy_2 rfl (lv_at hl 0 rfl) ?_
  refine lv_iload_n hx hb dL_doneBy_3 rfl (lv_at hl 1 rfl) ?_
  refine m_xcalli (vx_runV (As := [.int x0]) (rest := [.int 0, .ref o]) ⟨hx, hb, hml, hown, hts⟩ (c_X4_doneBy (l := l) hfl (s.heap.size) hC x0 ) (cwV 1 hts gL_doneBy_X4_doneBy rfl rfl rfl (by decide +kernel) ⟨by decide, by decide⟩) (m_preV (r := (RX4, TX4, 11)) hE hV hS hA (hC.at (k := 0) (i := 0) rfl) rfl) rfl rfl hl.1 rfl (lv_room (by exact Nat.le_of_ble_eq_true rfl)) dL_doneBy_4 ⟨by decide, by decide⟩) hV hS hA (fun E ce q9 h1 H locs hV hS hxp _ g7 g8 g9 => ?_) (fun r h1 H locs hV hS hp _ => ?_)
  · have hE9 : E = "java/util/NoSuchElementException" := hxp.1
    rcases hE9 with rfl
    refine vx_catch (name := "java/util/NoSuchElementException") hown [] ⟨0, 9, 12, 48⟩ [] htab (fun _ z => nomatch z) (by decide) (by decide) (htsE (.classLink RL 48 "java/util/NoSuchElementException") (List.mem_append_right _ (by decide +kernel))) (va_Nw.use rfl (hE.1.2.2.2.2.2.2.2.2 (.castable "java/util/NoSuchElementException" "java/util/NoSuchElementException") (by decide +kernel))) g7 g8 g9 ?_
    refine lv_astore_n (lv' := [(3, .ref q9), (0, .ref (L 0 0)), (1, .int x0), (2, .ref o)]) hx hb dL_doneBy_12 rfl hl (by decide) rfl (fun ls hl => ?_)
    refine lv_iconst (v := 1) hx hb dL_doneBy_13 (by decide) ?_
    exact m_iret (v := 1) hx hb hr hlocks hV hS (Or.inr (⟨rfl, hxp⟩)) dL_doneBy_14
  · have ho1 : h1 o = some (.inl (cs.2.1, 1, .inr (.inl f))) := by
      rcases hp with ⟨_, _, e9, _⟩
      rw [e9]; exact ho
    refine lv_i2l (v := r.toInt64) hx hb dL_doneBy_7 rfl ?_
    refine m_last (Rp := fun h8 => h8 = mu h1 o (.inl (cs.2.1, 1, .inr (.inl (vp_updL f (0 : Int32).toNatClampNeg r.toInt64))))) hx hb hK hV hS 1 (i := 0) ⟨ho1, rfl⟩ rfl (show vp_in (nI 0) 1 from vp_in_nI (by decide) (by decide)) dL_doneBy_8 (fun h8 H locs hV hS e8 => ?_)
    refine lv_goto (tgt := 15) hx hb dL_doneBy_9 (by decide) ?_
    refine lv_iconst (v := 0) hx hb dL_doneBy_15 (by decide) ?_
    exact m_iret (v := 0) hx hb hr hlocks hV hS (Or.inl ⟨rfl, r, h1, hp, ⟨_, by rw [e8]; exact mu_s _ _ _, rfl⟩, fun a ha => by rw [e8]; exact mu_n ha⟩) dL_doneBy_16
set_option maxHeartbeats 4000000 in
set_option maxRecDepth 100000 in
theorem c_L_doneIn {l : Launch} (hfl : l.stackTraces = false) {D : va_G} {cs : mC} {df : Nat} {P : Nat → Prop} {L : KL} {σ : KS} {hh : mH} (sz : Nat) (hC : CRep cs df P hh L σ hh) (o : Nat) (f : Nat → Int64) (ho : hh o = some (.inl (cs.2.1, 1, .inr (.inl f)))) (hoP : ¬ P o) (x0 : Int32) : Met l yL_doneIn (wsL_doneIn ++ lxW) ({ frames := 7, cells := 1, slots := 6, locals := 112 }) (lPre [.ref (L 0 0), .int x0, .ref o] D cs df hh sz) (va_Qi (fun (r : Int32) (h1 : mH) => (r = 0 ∧ ∃ (v : Int32) (h9 : mH), (∃ t, inR x0 (kN σ 62 1) = some t ∧ h9 = hh ∧ v = kI σ 24 t) ∧ oL cs h1 o v.toInt64 ∧ ∀ a, a ≠ o → h1 a = h9 a) ∨ (r = 1 ∧ ("java/lang/IndexOutOfBoundsException" = "java/lang/IndexOutOfBoundsException" ∧ h1 = hh ∧ inR x0 (kN σ 62 1) = none))) (mB D hh sz) (mA hh sz)) 1 6 (mA hh sz) := by
  refine va_MetW (cc := cL_doneIn) (maxL := 4) (ret := (some .int)) (hh := [(0, 9, 12, 26)]) (by decide) rfl ?_
  intro p e s m args below meth c s₁ B0 hml hv
  obtain ⟨hargs, ⟨hsz, hV, hE⟩, hN⟩ := hv
  subst hsz
  have hx := B0.exec
  have hb := B0.bytes
  have hr := B0.returns
  have hlocks := B0.notSynchronized
  have htsE := atoms_spec (ws := wsL_doneIn ++ lxW) B0.pre
  have hts : ∀ w ∈ wsL_doneIn, w.before args s = true := fun w h => htsE w (List.mem_append_left _ h)
  have hown : s.vm.findClass RL = some m.cls := findClass_of_methodNamed B0.named
  have hK := hE.1.1
  have hA : ∀ q : Nat, s.heap.size ≤ q → mA hh s.heap.size q := mA.top
  have hS : va_S (mA hh s.heap.size) s.heap s.heap [] := va_S.rf
  have htab : c.exceptionTable.toList = tableOf [(0, 9, 12, 26)] := vx_table (x := objectInit) B0 (hts (.codeWith yL_doneIn cL_doneIn 4 (some .int) [(0, 9, 12, 26)]) (by decide +kernel))
  have hl := lv_entry ([.ref (L 0 0), .int x0, .ref o]) (n := 4) (by exact Nat.le_of_ble_eq_true rfl)
  have hent := lg_entry_eq m ([.ref (L 0 0), .int x0, .ref o]) 4
  rw [← hargs] at hent
  rw [hent]
  generalize (lg_sl ([.ref (L 0 0), .int x0, .ref o]) ++ List.replicate (4 - (lg_sl ([.ref (L 0 0), .int x0, .ref o])).length) Slot.unset).toArray = ls at hl ⊢
  replace hl : lv_has ls 4 [(0, .ref (L 0 0)), (1, .int x0), (2, .ref o)] := hl
  refine lv_aload_n hx hb dL_doneIn_0 rfl (lv_at hl 2 rfl) ?_
  refine lv_iconst (v := 0) hx hb dL_doneIn_1 (by decide) ?_
  refine lv_aload_n hx hb dL_doneIn_2 rfl (lv_at hl 0 rfl) ?_
  refine lv_iload_n hx hb dL_doneIn_3 rfl (lv_at hl 1 rfl) ?_
  refine m_xcalli (vx_runV (As := [.int x0]) (rest := [.int 0, .ref o]) ⟨hx, hb, hml, hown, hts⟩ (c_X4_doneIn (l := l) hfl (s.heap.size) hC x0 ) (cwV 1 hts gL_doneIn_X4_doneIn rfl rfl rfl (by decide +kernel) ⟨by decide, by decide⟩) (m_preV (r := (RX4, TX4, 11)) hE hV hS hA (hC.at (k := 0) (i := 0) rfl) rfl) rfl rfl hl.1 rfl (lv_room (by exact Nat.le_of_ble_eq_true rfl)) dL_doneIn_4 ⟨by decide, by decide⟩) hV hS hA (fun E ce q9 h1 H locs hV hS hxp _ g7 g8 g9 => ?_) (fun r h1 H locs hV hS hp _ => ?_)
  · have hE9 : E = "java/lang/IndexOutOfBoundsException" := hxp.1
    rcases hE9 with rfl
    refine vx_catch (name := "java/lang/IndexOutOfBoundsException") hown [] ⟨0, 9, 12, 26⟩ [] htab (fun _ z => nomatch z) (by decide) (by decide) (htsE (.classLink RL 26 "java/lang/IndexOutOfBoundsException") (List.mem_append_right _ (by decide +kernel))) (va_Nw.use rfl (hE.1.2.2.2.2.2.2.2.2 (.castable "java/lang/IndexOutOfBoundsException" "java/lang/IndexOutOfBoundsException") (by decide +kernel))) g7 g8 g9 ?_
    refine lv_astore_n (lv' := [(3, .ref q9), (0, .ref (L 0 0)), (1, .int x0), (2, .ref o)]) hx hb dL_doneIn_12 rfl hl (by decide) rfl (fun ls hl => ?_)
    refine lv_iconst (v := 1) hx hb dL_doneIn_13 (by decide) ?_
    exact m_iret (v := 1) hx hb hr hlocks hV hS (Or.inr (⟨rfl, hxp⟩)) dL_doneIn_14
  · have ho1 : h1 o = some (.inl (cs.2.1, 1, .inr (.inl f))) := by
      rcases hp with ⟨_, _, e9, _⟩
      rw [e9]; exact ho
    refine lv_i2l (v := r.toInt64) hx hb dL_doneIn_7 rfl ?_
    refine m_last (Rp := fun h8 => h8 = mu h1 o (.inl (cs.2.1, 1, .inr (.inl (vp_updL f (0 : Int32).toNatClampNeg r.toInt64))))) hx hb hK hV hS 1 (i := 0) ⟨ho1, rfl⟩ rfl (show vp_in (nI 0) 1 from vp_in_nI (by decide) (by decide)) dL_doneIn_8 (fun h8 H locs hV hS e8 => ?_)
    refine lv_goto (tgt := 15) hx hb dL_doneIn_9 (by decide) ?_
    refine lv_iconst (v := 0) hx hb dL_doneIn_15 (by decide) ?_
    exact m_iret (v := 0) hx hb hr hlocks hV hS (Or.inl ⟨rfl, r, h1, hp, ⟨_, by rw [e8]; exact mu_s _ _ _, rfl⟩, fun a ha => by rw [e8]; exact mu_n ha⟩) dL_doneIn_16
set_option maxHeartbeats 4000000 in
set_option maxRecDepth 100000 in
theorem c_L_deadlineOf {l : Launch} (hfl : l.stackTraces = false) {D : va_G} {cs : mC} {df : Nat} {P : Nat → Prop} {L : KL} {σ : KS} {hh : mH} (sz : Nat) (hC : CRep cs df P hh L σ hh) (o : Nat) (f : Nat → Int64) (ho : hh o = some (.inl (cs.2.1, 1, .inr (.inl f)))) (hoP : ¬ P o) (x0 : Int32) : Met l yL_deadlineOf (wsL_deadlineOf ++ lxW) ({ frames := 7, cells := 1, slots := 6, locals := 112 }) (lPre [.ref (L 0 0), .int x0, .ref o] D cs df hh sz) (va_Qi (fun (r : Int32) (h1 : mH) => (r = 0 ∧ ∃ (v : Int32) (h9 : mH), (∃ t, inR x0 (kN σ 62 2) = some t ∧ 0 < kI σ 37 t ∧ h9 = hh ∧ v = kI σ 40 t) ∧ oL cs h1 o v.toInt64 ∧ ∀ a, a ≠ o → h1 a = h9 a) ∨ (r = 1 ∧ (h1 = hh ∧ ("java/util/NoSuchElementException" = "java/util/NoSuchElementException" ∧ inR x0 (kN σ 62 2) = none ∨ "java/util/NoSuchElementException" = "java/lang/UnsupportedOperationException" ∧ ∃ t, inR x0 (kN σ 62 2) = some t ∧ ¬ 0 < kI σ 37 t))) ∨ (r = 2 ∧ (h1 = hh ∧ ("java/lang/UnsupportedOperationException" = "java/util/NoSuchElementException" ∧ inR x0 (kN σ 62 2) = none ∨ "java/lang/UnsupportedOperationException" = "java/lang/UnsupportedOperationException" ∧ ∃ t, inR x0 (kN σ 62 2) = some t ∧ ¬ 0 < kI σ 37 t)))) (mB D hh sz) (mA hh sz)) 1 6 (mA hh sz) := by
  refine va_MetW (cc := cL_deadlineOf) (maxL := 4) (ret := (some .int)) (hh := [(0, 9, 12, 48), (0, 9, 15, 43)]) (by decide) rfl ?_
  intro p e s m args below meth c s₁ B0 hml hv
  obtain ⟨hargs, ⟨hsz, hV, hE⟩, hN⟩ := hv
  subst hsz
  have hx := B0.exec
  have hb := B0.bytes
  have hr := B0.returns
  have hlocks := B0.notSynchronized
  have htsE := atoms_spec (ws := wsL_deadlineOf ++ lxW) B0.pre
  have hts : ∀ w ∈ wsL_deadlineOf, w.before args s = true := fun w h => htsE w (List.mem_append_left _ h)
  have hown : s.vm.findClass RL = some m.cls := findClass_of_methodNamed B0.named
  have hK := hE.1.1
  have hA : ∀ q : Nat, s.heap.size ≤ q → mA hh s.heap.size q := mA.top
  have hS : va_S (mA hh s.heap.size) s.heap s.heap [] := va_S.rf
  have htab : c.exceptionTable.toList = tableOf [(0, 9, 12, 48), (0, 9, 15, 43)] := vx_table (x := objectInit) B0 (hts (.codeWith yL_deadlineOf cL_deadlineOf 4 (some .int) [(0, 9, 12, 48), (0, 9, 15, 43)]) (by decide +kernel))
  have hl := lv_entry ([.ref (L 0 0), .int x0, .ref o]) (n := 4) (by exact Nat.le_of_ble_eq_true rfl)
  have hent := lg_entry_eq m ([.ref (L 0 0), .int x0, .ref o]) 4
  rw [← hargs] at hent
  rw [hent]
  generalize (lg_sl ([.ref (L 0 0), .int x0, .ref o]) ++ List.replicate (4 - (lg_sl ([.ref (L 0 0), .int x0, .ref o])).length) Slot.unset).toArray = ls at hl ⊢
  replace hl : lv_has ls 4 [(0, .ref (L 0 0)), (1, .int x0), (2, .ref o)] := hl
  refine lv_aload_n hx hb dL_deadlineOf_0 rfl (lv_at hl 2 rfl) ?_
  refine lv_iconst (v := 0) hx hb dL_deadlineOf_1 (by decide) ?_
  refine lv_aload_n hx hb dL_deadlineOf_2 rfl (lv_at hl 0 rfl) ?_
  refine lv_iload_n hx hb dL_deadlineOf_3 rfl (lv_at hl 1 rfl) ?_
  refine m_xcalli (vx_runV (As := [.int x0]) (rest := [.int 0, .ref o]) ⟨hx, hb, hml, hown, hts⟩ (c_X4_deadlineOf (l := l) hfl (s.heap.size) hC x0 ) (cwV 1 hts gL_deadlineOf_X4_deadlineOf rfl rfl rfl (by decide +kernel) ⟨by decide, by decide⟩) (m_preV (r := (RX4, TX4, 11)) hE hV hS hA (hC.at (k := 0) (i := 0) rfl) rfl) rfl rfl hl.1 rfl (lv_room (by exact Nat.le_of_ble_eq_true rfl)) dL_deadlineOf_4 ⟨by decide, by decide⟩) hV hS hA (fun E ce q9 h1 H locs hV hS hxp _ g7 g8 g9 => ?_) (fun r h1 H locs hV hS hp _ => ?_)
  · have hE9 : E = "java/util/NoSuchElementException" ∨ E = "java/lang/UnsupportedOperationException" := hxp.2.elim (fun z => Or.inl z.1) (fun z => Or.inr z.1)
    rcases hE9 with rfl | rfl
    · refine vx_catch (name := "java/util/NoSuchElementException") hown [] ⟨0, 9, 12, 48⟩ [⟨0, 9, 15, 43⟩] htab (fun _ z => nomatch z) (by decide) (by decide) (htsE (.classLink RL 48 "java/util/NoSuchElementException") (List.mem_append_right _ (by decide +kernel))) (va_Nw.use rfl (hE.1.2.2.2.2.2.2.2.2 (.castable "java/util/NoSuchElementException" "java/util/NoSuchElementException") (by decide +kernel))) g7 g8 g9 ?_
      refine lv_astore_n (lv' := [(3, .ref q9), (0, .ref (L 0 0)), (1, .int x0), (2, .ref o)]) hx hb dL_deadlineOf_12 rfl hl (by decide) rfl (fun ls hl => ?_)
      refine lv_iconst (v := 1) hx hb dL_deadlineOf_13 (by decide) ?_
      exact m_iret (v := 1) hx hb hr hlocks hV hS (Or.inr (Or.inl ⟨rfl, hxp⟩)) dL_deadlineOf_14
    · refine vx_catch (name := "java/lang/UnsupportedOperationException") hown [⟨0, 9, 12, 48⟩] ⟨0, 9, 15, 43⟩ [] htab (List.forall_mem_cons.mpr ⟨Or.inr ⟨by decide, "java/util/NoSuchElementException", htsE (.classLink RL 48 "java/util/NoSuchElementException") (List.mem_append_right _ (by decide +kernel)), hN ("java/lang/UnsupportedOperationException", "java/util/NoSuchElementException") (List.mem_of_getElem? (i := 7) rfl)⟩, (fun _ z => nomatch z)⟩) (by decide) (by decide) (htsE (.classLink RL 43 "java/lang/UnsupportedOperationException") (List.mem_append_right _ (by decide +kernel))) (va_Nw.use rfl (hE.1.2.2.2.2.2.2.2.2 (.castable "java/lang/UnsupportedOperationException" "java/lang/UnsupportedOperationException") (by decide +kernel))) g7 g8 g9 ?_
      refine lv_astore_n (lv' := [(3, .ref q9), (0, .ref (L 0 0)), (1, .int x0), (2, .ref o)]) hx hb dL_deadlineOf_15 rfl hl (by decide) rfl (fun ls hl => ?_)
      refine lv_iconst (v := 2) hx hb dL_deadlineOf_16 (by decide) ?_
      exact m_iret (v := 2) hx hb hr hlocks hV hS (Or.inr (Or.inr (⟨rfl, hxp⟩))) dL_deadlineOf_17
  · have ho1 : h1 o = some (.inl (cs.2.1, 1, .inr (.inl f))) := by
      rcases hp with ⟨_, _, _, e9, _⟩
      rw [e9]; exact ho
    refine lv_i2l (v := r.toInt64) hx hb dL_deadlineOf_7 rfl ?_
    refine m_last (Rp := fun h8 => h8 = mu h1 o (.inl (cs.2.1, 1, .inr (.inl (vp_updL f (0 : Int32).toNatClampNeg r.toInt64))))) hx hb hK hV hS 1 (i := 0) ⟨ho1, rfl⟩ rfl (show vp_in (nI 0) 1 from vp_in_nI (by decide) (by decide)) dL_deadlineOf_8 (fun h8 H locs hV hS e8 => ?_)
    refine lv_goto (tgt := 18) hx hb dL_deadlineOf_9 (by decide) ?_
    refine lv_iconst (v := 0) hx hb dL_deadlineOf_18 (by decide) ?_
    exact m_iret (v := 0) hx hb hr hlocks hV hS (Or.inl ⟨rfl, r, h1, hp, ⟨_, by rw [e8]; exact mu_s _ _ _, rfl⟩, fun a ha => by rw [e8]; exact mu_n ha⟩) dL_deadlineOf_19
set_option maxHeartbeats 4000000 in
set_option maxRecDepth 100000 in
theorem c_L_urgencyOf {l : Launch} (hfl : l.stackTraces = false) {D : va_G} {cs : mC} {df : Nat} {P : Nat → Prop} {L : KL} {σ : KS} {hh : mH} (sz : Nat) (hC : CRep cs df P hh L σ hh) (o : Nat) (f : Nat → Int64) (ho : hh o = some (.inl (cs.2.1, 1, .inr (.inl f)))) (hoP : ¬ P o) (x0 : Int32) : Met l yL_urgencyOf (wsL_urgencyOf ++ lxW) ({ frames := 7, cells := 1, slots := 6, locals := 112 }) (lPre [.ref (L 0 0), .int x0, .ref o] D cs df hh sz) (va_Qi (fun (r : Int32) (h1 : mH) => (r = 0 ∧ ∃ (v : Int32) (h9 : mH), (∃ t, inR x0 (kN σ 62 2) = some t ∧ CRep cs df P hh L (urgS σ) h9 ∧ ¬ kI (urgS σ) 44 t = 2147483647 ∧ v = kI (urgS σ) 44 t) ∧ oL cs h1 o v.toInt64 ∧ ∀ a, a ≠ o → h1 a = h9 a) ∨ (r = 1 ∧ ("java/util/NoSuchElementException" = "java/util/NoSuchElementException" ∧ (h1 = hh ∧ inR x0 (kN σ 62 2) = none ∨ ∃ t, inR x0 (kN σ 62 2) = some t ∧ CRep cs df P hh L (urgS σ) h1 ∧ kI (urgS σ) 44 t = 2147483647)))) (mB D hh sz) (mA hh sz)) 1 6 (mA hh sz) := by
  refine va_MetW (cc := cL_urgencyOf) (maxL := 4) (ret := (some .int)) (hh := [(0, 9, 12, 48)]) (by decide) rfl ?_
  intro p e s m args below meth c s₁ B0 hml hv
  obtain ⟨hargs, ⟨hsz, hV, hE⟩, hN⟩ := hv
  subst hsz
  have hx := B0.exec
  have hb := B0.bytes
  have hr := B0.returns
  have hlocks := B0.notSynchronized
  have htsE := atoms_spec (ws := wsL_urgencyOf ++ lxW) B0.pre
  have hts : ∀ w ∈ wsL_urgencyOf, w.before args s = true := fun w h => htsE w (List.mem_append_left _ h)
  have hown : s.vm.findClass RL = some m.cls := findClass_of_methodNamed B0.named
  have hK := hE.1.1
  have hA : ∀ q : Nat, s.heap.size ≤ q → mA hh s.heap.size q := mA.top
  have hS : va_S (mA hh s.heap.size) s.heap s.heap [] := va_S.rf
  have htab : c.exceptionTable.toList = tableOf [(0, 9, 12, 48)] := vx_table (x := objectInit) B0 (hts (.codeWith yL_urgencyOf cL_urgencyOf 4 (some .int) [(0, 9, 12, 48)]) (by decide +kernel))
  have hl := lv_entry ([.ref (L 0 0), .int x0, .ref o]) (n := 4) (by exact Nat.le_of_ble_eq_true rfl)
  have hent := lg_entry_eq m ([.ref (L 0 0), .int x0, .ref o]) 4
  rw [← hargs] at hent
  rw [hent]
  generalize (lg_sl ([.ref (L 0 0), .int x0, .ref o]) ++ List.replicate (4 - (lg_sl ([.ref (L 0 0), .int x0, .ref o])).length) Slot.unset).toArray = ls at hl ⊢
  replace hl : lv_has ls 4 [(0, .ref (L 0 0)), (1, .int x0), (2, .ref o)] := hl
  refine lv_aload_n hx hb dL_urgencyOf_0 rfl (lv_at hl 2 rfl) ?_
  refine lv_iconst (v := 0) hx hb dL_urgencyOf_1 (by decide) ?_
  refine lv_aload_n hx hb dL_urgencyOf_2 rfl (lv_at hl 0 rfl) ?_
  refine lv_iload_n hx hb dL_urgencyOf_3 rfl (lv_at hl 1 rfl) ?_
  refine m_xcalli (vx_runV (As := [.int x0]) (rest := [.int 0, .ref o]) ⟨hx, hb, hml, hown, hts⟩ (c_X4_urgencyOf (l := l) hfl (s.heap.size) hC x0 ) (cwV 1 hts gL_urgencyOf_X4_urgencyOf rfl rfl rfl (by decide +kernel) ⟨by decide, by decide⟩) (m_preV (r := (RX4, TX4, 11)) hE hV hS hA (hC.at (k := 0) (i := 0) rfl) rfl) rfl rfl hl.1 rfl (lv_room (by exact Nat.le_of_ble_eq_true rfl)) dL_urgencyOf_4 ⟨by decide, by decide⟩) hV hS hA (fun E ce q9 h1 H locs hV hS hxp _ g7 g8 g9 => ?_) (fun r h1 H locs hV hS hp _ => ?_)
  · have hE9 : E = "java/util/NoSuchElementException" := hxp.1
    rcases hE9 with rfl
    refine vx_catch (name := "java/util/NoSuchElementException") hown [] ⟨0, 9, 12, 48⟩ [] htab (fun _ z => nomatch z) (by decide) (by decide) (htsE (.classLink RL 48 "java/util/NoSuchElementException") (List.mem_append_right _ (by decide +kernel))) (va_Nw.use rfl (hE.1.2.2.2.2.2.2.2.2 (.castable "java/util/NoSuchElementException" "java/util/NoSuchElementException") (by decide +kernel))) g7 g8 g9 ?_
    refine lv_astore_n (lv' := [(3, .ref q9), (0, .ref (L 0 0)), (1, .int x0), (2, .ref o)]) hx hb dL_urgencyOf_12 rfl hl (by decide) rfl (fun ls hl => ?_)
    refine lv_iconst (v := 1) hx hb dL_urgencyOf_13 (by decide) ?_
    exact m_iret (v := 1) hx hb hr hlocks hV hS (Or.inr (⟨rfl, hxp⟩)) dL_urgencyOf_14
  · have ho1 : h1 o = some (.inl (cs.2.1, 1, .inr (.inl f))) := by
      rcases hp with ⟨_, _, k9, _⟩
      exact (k9.out hoP).trans ho
    refine lv_i2l (v := r.toInt64) hx hb dL_urgencyOf_7 rfl ?_
    refine m_last (Rp := fun h8 => h8 = mu h1 o (.inl (cs.2.1, 1, .inr (.inl (vp_updL f (0 : Int32).toNatClampNeg r.toInt64))))) hx hb hK hV hS 1 (i := 0) ⟨ho1, rfl⟩ rfl (show vp_in (nI 0) 1 from vp_in_nI (by decide) (by decide)) dL_urgencyOf_8 (fun h8 H locs hV hS e8 => ?_)
    refine lv_goto (tgt := 15) hx hb dL_urgencyOf_9 (by decide) ?_
    refine lv_iconst (v := 0) hx hb dL_urgencyOf_15 (by decide) ?_
    exact m_iret (v := 0) hx hb hr hlocks hV hS (Or.inl ⟨rfl, r, h1, hp, ⟨_, by rw [e8]; exact mu_s _ _ _, rfl⟩, fun a ha => by rw [e8]; exact mu_n ha⟩) dL_urgencyOf_16
set_option maxHeartbeats 4000000 in
set_option maxRecDepth 100000 in
theorem c_L_missesOf {l : Launch} (hfl : l.stackTraces = false) {D : va_G} {cs : mC} {df : Nat} {P : Nat → Prop} {L : KL} {σ : KS} {hh : mH} (sz : Nat) (hC : CRep cs df P hh L σ hh) (o : Nat) (f : Nat → Int64) (ho : hh o = some (.inl (cs.2.1, 1, .inr (.inl f)))) (hoP : ¬ P o) (x0 : Int32) : Met l yL_missesOf (wsL_missesOf ++ lxW) ({ frames := 7, cells := 1, slots := 6, locals := 112 }) (lPre [.ref (L 0 0), .int x0, .ref o] D cs df hh sz) (va_Qi (fun (r : Int32) (h1 : mH) => (r = 0 ∧ ∃ (v : Int32) (h9 : mH), (∃ t, inR x0 (kN σ 62 2) = some t ∧ h9 = hh ∧ v = kI σ 41 t) ∧ oL cs h1 o v.toInt64 ∧ ∀ a, a ≠ o → h1 a = h9 a) ∨ (r = 1 ∧ ("java/util/NoSuchElementException" = "java/util/NoSuchElementException" ∧ h1 = hh ∧ inR x0 (kN σ 62 2) = none))) (mB D hh sz) (mA hh sz)) 1 6 (mA hh sz) := by
  refine va_MetW (cc := cL_missesOf) (maxL := 4) (ret := (some .int)) (hh := [(0, 9, 12, 48)]) (by decide) rfl ?_
  intro p e s m args below meth c s₁ B0 hml hv
  obtain ⟨hargs, ⟨hsz, hV, hE⟩, hN⟩ := hv
  subst hsz
  have hx := B0.exec
  have hb := B0.bytes
  have hr := B0.returns
  have hlocks := B0.notSynchronized
  have htsE := atoms_spec (ws := wsL_missesOf ++ lxW) B0.pre
  have hts : ∀ w ∈ wsL_missesOf, w.before args s = true := fun w h => htsE w (List.mem_append_left _ h)
  have hown : s.vm.findClass RL = some m.cls := findClass_of_methodNamed B0.named
  have hK := hE.1.1
  have hA : ∀ q : Nat, s.heap.size ≤ q → mA hh s.heap.size q := mA.top
  have hS : va_S (mA hh s.heap.size) s.heap s.heap [] := va_S.rf
  have htab : c.exceptionTable.toList = tableOf [(0, 9, 12, 48)] := vx_table (x := objectInit) B0 (hts (.codeWith yL_missesOf cL_missesOf 4 (some .int) [(0, 9, 12, 48)]) (by decide +kernel))
  have hl := lv_entry ([.ref (L 0 0), .int x0, .ref o]) (n := 4) (by exact Nat.le_of_ble_eq_true rfl)
  have hent := lg_entry_eq m ([.ref (L 0 0), .int x0, .ref o]) 4
  rw [← hargs] at hent
  rw [hent]
  generalize (lg_sl ([.ref (L 0 0), .int x0, .ref o]) ++ List.replicate (4 - (lg_sl ([.ref (L 0 0), .int x0, .ref o])).length) Slot.unset).toArray = ls at hl ⊢
  replace hl : lv_has ls 4 [(0, .ref (L 0 0)), (1, .int x0), (2, .ref o)] := hl
  refine lv_aload_n hx hb dL_missesOf_0 rfl (lv_at hl 2 rfl) ?_
  refine lv_iconst (v := 0) hx hb dL_missesOf_1 (by decide) ?_
  refine lv_aload_n hx hb dL_missesOf_2 rfl (lv_at hl 0 rfl) ?_
  refine lv_iload_n hx hb dL_missesOf_3 rfl (lv_at hl 1 rfl) ?_
  refine m_xcalli (vx_runV (As := [.int x0]) (rest := [.int 0, .ref o]) ⟨hx, hb, hml, hown, hts⟩ (c_X4_missesOf (l := l) hfl (s.heap.size) hC x0 ) (cwV 1 hts gL_missesOf_X4_missesOf rfl rfl rfl (by decide +kernel) ⟨by decide, by decide⟩) (m_preV (r := (RX4, TX4, 11)) hE hV hS hA (hC.at (k := 0) (i := 0) rfl) rfl) rfl rfl hl.1 rfl (lv_room (by exact Nat.le_of_ble_eq_true rfl)) dL_missesOf_4 ⟨by decide, by decide⟩) hV hS hA (fun E ce q9 h1 H locs hV hS hxp _ g7 g8 g9 => ?_) (fun r h1 H locs hV hS hp _ => ?_)
  · have hE9 : E = "java/util/NoSuchElementException" := hxp.1
    rcases hE9 with rfl
    refine vx_catch (name := "java/util/NoSuchElementException") hown [] ⟨0, 9, 12, 48⟩ [] htab (fun _ z => nomatch z) (by decide) (by decide) (htsE (.classLink RL 48 "java/util/NoSuchElementException") (List.mem_append_right _ (by decide +kernel))) (va_Nw.use rfl (hE.1.2.2.2.2.2.2.2.2 (.castable "java/util/NoSuchElementException" "java/util/NoSuchElementException") (by decide +kernel))) g7 g8 g9 ?_
    refine lv_astore_n (lv' := [(3, .ref q9), (0, .ref (L 0 0)), (1, .int x0), (2, .ref o)]) hx hb dL_missesOf_12 rfl hl (by decide) rfl (fun ls hl => ?_)
    refine lv_iconst (v := 1) hx hb dL_missesOf_13 (by decide) ?_
    exact m_iret (v := 1) hx hb hr hlocks hV hS (Or.inr (⟨rfl, hxp⟩)) dL_missesOf_14
  · have ho1 : h1 o = some (.inl (cs.2.1, 1, .inr (.inl f))) := by
      rcases hp with ⟨_, _, e9, _⟩
      rw [e9]; exact ho
    refine lv_i2l (v := r.toInt64) hx hb dL_missesOf_7 rfl ?_
    refine m_last (Rp := fun h8 => h8 = mu h1 o (.inl (cs.2.1, 1, .inr (.inl (vp_updL f (0 : Int32).toNatClampNeg r.toInt64))))) hx hb hK hV hS 1 (i := 0) ⟨ho1, rfl⟩ rfl (show vp_in (nI 0) 1 from vp_in_nI (by decide) (by decide)) dL_missesOf_8 (fun h8 H locs hV hS e8 => ?_)
    refine lv_goto (tgt := 15) hx hb dL_missesOf_9 (by decide) ?_
    refine lv_iconst (v := 0) hx hb dL_missesOf_15 (by decide) ?_
    exact m_iret (v := 0) hx hb hr hlocks hV hS (Or.inl ⟨rfl, r, h1, hp, ⟨_, by rw [e8]; exact mu_s _ _ _, rfl⟩, fun a ha => by rw [e8]; exact mu_n ha⟩) dL_missesOf_16
set_option maxHeartbeats 4000000 in
set_option maxRecDepth 100000 in
theorem c_L_take {l : Launch} (hfl : l.stackTraces = false) {D : va_G} {cs : mC} {df : Nat} {P : Nat → Prop} {L : KL} {σ : KS} {hh : mH} (sz : Nat) (hC : CRep cs df P hh L σ hh) (o : Nat) (f : Nat → Int64) (ho : hh o = some (.inl (cs.2.1, 1, .inr (.inl f)))) (hoP : ¬ P o) (x0 : Int32) (x1 : Int32) (hz : ∀ w, w < 4 → kN σ 62 (4 + w) ≤ 50) : Met l yL_take (wsL_take ++ lxW) ({ frames := 8, cells := 1, slots := 200, locals := 215 }) (lPre [.ref (L 0 0), .int x0, .int x1, .ref o] D cs df hh sz) (va_Qi (fun (r : Int32) (h1 : mH) => (r = 0 ∧ ∃ (v : Int32) (h9 : mH), (∃ t w, inR x0 (kN σ 62 2) = some t ∧ inR x1 (kN σ 62 3) = some w ∧ kB σ 36 t = false ∧ kO σ 42 t = none ∧ kO σ 50 w ≠ some t ∧ ((kO σ 50 w = none ∧ CRep cs df P hh L (sO σ 50 (va_up (kO σ 50) w (some t))) h9 ∧ v = 1) ∨ ∃ k, kO σ 50 w = some k ∧ weS t σ 12 (hbS σ k) = false ∧ CRep cs df P hh L (lAdd (sO σ 42 (va_up (kO σ 42) t (some w))) (4 + w) t) h9 ∧ v = 0)) ∧ oL cs h1 o (if v = 0 then 0 else 1) ∧ ∀ a, a ≠ o → h1 a = h9 a) ∨ (r = 1 ∧ (h1 = hh ∧ ("java/util/NoSuchElementException" = "java/util/NoSuchElementException" ∧ inR x0 (kN σ 62 2) = none ∨ "java/util/NoSuchElementException" = "java/lang/IndexOutOfBoundsException" ∧ (∃ t, inR x0 (kN σ 62 2) = some t ∧ inR x1 (kN σ 62 3) = none) ∨ "java/util/NoSuchElementException" = "java/lang/IllegalStateException" ∧ (∃ t w, inR x0 (kN σ 62 2) = some t ∧ inR x1 (kN σ 62 3) = some w ∧ (kB σ 36 t = true ∨ kO σ 42 t ≠ none ∨ kO σ 50 w = some t)) ∨ "java/util/NoSuchElementException" = "java/lang/UnsupportedOperationException" ∧ ∃ t w k, inR x0 (kN σ 62 2) = some t ∧ inR x1 (kN σ 62 3) = some w ∧ kB σ 36 t = false ∧ kO σ 42 t = none ∧ kO σ 50 w ≠ some t ∧ kO σ 50 w = some k ∧ weS t σ 12 (hbS σ k) = true))) ∨ (r = 2 ∧ (h1 = hh ∧ ("java/lang/IndexOutOfBoundsException" = "java/util/NoSuchElementException" ∧ inR x0 (kN σ 62 2) = none ∨ "java/lang/IndexOutOfBoundsException" = "java/lang/IndexOutOfBoundsException" ∧ (∃ t, inR x0 (kN σ 62 2) = some t ∧ inR x1 (kN σ 62 3) = none) ∨ "java/lang/IndexOutOfBoundsException" = "java/lang/IllegalStateException" ∧ (∃ t w, inR x0 (kN σ 62 2) = some t ∧ inR x1 (kN σ 62 3) = some w ∧ (kB σ 36 t = true ∨ kO σ 42 t ≠ none ∨ kO σ 50 w = some t)) ∨ "java/lang/IndexOutOfBoundsException" = "java/lang/UnsupportedOperationException" ∧ ∃ t w k, inR x0 (kN σ 62 2) = some t ∧ inR x1 (kN σ 62 3) = some w ∧ kB σ 36 t = false ∧ kO σ 42 t = none ∧ kO σ 50 w ≠ some t ∧ kO σ 50 w = some k ∧ weS t σ 12 (hbS σ k) = true))) ∨ (r = 3 ∧ (h1 = hh ∧ ("java/lang/IllegalStateException" = "java/util/NoSuchElementException" ∧ inR x0 (kN σ 62 2) = none ∨ "java/lang/IllegalStateException" = "java/lang/IndexOutOfBoundsException" ∧ (∃ t, inR x0 (kN σ 62 2) = some t ∧ inR x1 (kN σ 62 3) = none) ∨ "java/lang/IllegalStateException" = "java/lang/IllegalStateException" ∧ (∃ t w, inR x0 (kN σ 62 2) = some t ∧ inR x1 (kN σ 62 3) = some w ∧ (kB σ 36 t = true ∨ kO σ 42 t ≠ none ∨ kO σ 50 w = some t)) ∨ "java/lang/IllegalStateException" = "java/lang/UnsupportedOperationException" ∧ ∃ t w k, inR x0 (kN σ 62 2) = some t ∧ inR x1 (kN σ 62 3) = some w ∧ kB σ 36 t = false ∧ kO σ 42 t = none ∧ kO σ 50 w ≠ some t ∧ kO σ 50 w = some k ∧ weS t σ 12 (hbS σ k) = true))) ∨ (r = 4 ∧ (h1 = hh ∧ ("java/lang/UnsupportedOperationException" = "java/util/NoSuchElementException" ∧ inR x0 (kN σ 62 2) = none ∨ "java/lang/UnsupportedOperationException" = "java/lang/IndexOutOfBoundsException" ∧ (∃ t, inR x0 (kN σ 62 2) = some t ∧ inR x1 (kN σ 62 3) = none) ∨ "java/lang/UnsupportedOperationException" = "java/lang/IllegalStateException" ∧ (∃ t w, inR x0 (kN σ 62 2) = some t ∧ inR x1 (kN σ 62 3) = some w ∧ (kB σ 36 t = true ∨ kO σ 42 t ≠ none ∨ kO σ 50 w = some t)) ∨ "java/lang/UnsupportedOperationException" = "java/lang/UnsupportedOperationException" ∧ ∃ t w k, inR x0 (kN σ 62 2) = some t ∧ inR x1 (kN σ 62 3) = some w ∧ kB σ 36 t = false ∧ kO σ 42 t = none ∧ kO σ 50 w ≠ some t ∧ kO σ 50 w = some k ∧ weS t σ 12 (hbS σ k) = true)))) (mB D hh sz) (mA hh sz)) 1 200 (mA hh sz) := by
  refine va_MetW (cc := cL_take) (maxL := 5) (ret := (some .int)) (hh := [(0, 17, 20, 48), (0, 17, 24, 26), (0, 17, 28, 15), (0, 17, 32, 43)]) (by decide) rfl ?_
  intro p e s m args below meth c s₁ B0 hml hv
  obtain ⟨hargs, ⟨hsz, hV, hE⟩, hN⟩ := hv
  subst hsz
  have hx := B0.exec
  have hb := B0.bytes
  have hr := B0.returns
  have hlocks := B0.notSynchronized
  have htsE := atoms_spec (ws := wsL_take ++ lxW) B0.pre
  have hts : ∀ w ∈ wsL_take, w.before args s = true := fun w h => htsE w (List.mem_append_left _ h)
  have hown : s.vm.findClass RL = some m.cls := findClass_of_methodNamed B0.named
  have hK := hE.1.1
  have hA : ∀ q : Nat, s.heap.size ≤ q → mA hh s.heap.size q := mA.top
  have hS : va_S (mA hh s.heap.size) s.heap s.heap [] := va_S.rf
  have htab : c.exceptionTable.toList = tableOf [(0, 17, 20, 48), (0, 17, 24, 26), (0, 17, 28, 15), (0, 17, 32, 43)] := vx_table (x := objectInit) B0 (hts (.codeWith yL_take cL_take 5 (some .int) [(0, 17, 20, 48), (0, 17, 24, 26), (0, 17, 28, 15), (0, 17, 32, 43)]) (by decide +kernel))
  have hl := lv_entry ([.ref (L 0 0), .int x0, .int x1, .ref o]) (n := 5) (by exact Nat.le_of_ble_eq_true rfl)
  have hent := lg_entry_eq m ([.ref (L 0 0), .int x0, .int x1, .ref o]) 5
  rw [← hargs] at hent
  rw [hent]
  generalize (lg_sl ([.ref (L 0 0), .int x0, .int x1, .ref o]) ++ List.replicate (5 - (lg_sl ([.ref (L 0 0), .int x0, .int x1, .ref o])).length) Slot.unset).toArray = ls at hl ⊢
  replace hl : lv_has ls 5 [(0, .ref (L 0 0)), (1, .int x0), (2, .int x1), (3, .ref o)] := hl
  refine lv_aload_n hx hb dL_take_0 rfl (lv_at hl 3 rfl) ?_
  refine lv_iconst (v := 0) hx hb dL_take_1 (by decide) ?_
  refine lv_aload_n hx hb dL_take_2 rfl (lv_at hl 0 rfl) ?_
  refine lv_iload_n hx hb dL_take_3 rfl (lv_at hl 1 rfl) ?_
  refine lv_iload_n hx hb dL_take_4 rfl (lv_at hl 2 rfl) ?_
  refine m_xcalli (vx_runV (As := [.int x0, .int x1]) (rest := [.int 0, .ref o]) ⟨hx, hb, hml, hown, hts⟩ (c_X4_take2 (l := l) hfl (s.heap.size) hC x0 x1 hz) (cwV 2 hts gL_take_X4_take rfl rfl rfl (by decide +kernel) ⟨by decide, by decide⟩) (m_preV (r := (RX4, TX4, 11)) hE hV hS hA (hC.at (k := 0) (i := 0) rfl) rfl) rfl rfl hl.1 rfl (lv_room (by exact Nat.le_of_ble_eq_true rfl)) dL_take_5 ⟨by decide, by decide⟩) hV hS hA (fun E ce q9 h1 H locs hV hS hxp _ g7 g8 g9 => ?_) (fun r h1 H locs hV hS hp _ => ?_)
  · have hE9 : E = "java/util/NoSuchElementException" ∨ E = "java/lang/IndexOutOfBoundsException" ∨ E = "java/lang/IllegalStateException" ∨ E = "java/lang/UnsupportedOperationException" := hxp.2.elim (fun z => Or.inl z.1) (fun z => Or.inr (z.elim (fun z => Or.inl z.1) (fun z => Or.inr (z.elim (fun z => Or.inl z.1) (fun z => Or.inr z.1)))))
    rcases hE9 with rfl | rfl | rfl | rfl
    · refine vx_catch (name := "java/util/NoSuchElementException") hown [] ⟨0, 17, 20, 48⟩ [⟨0, 17, 24, 26⟩, ⟨0, 17, 28, 15⟩, ⟨0, 17, 32, 43⟩] htab (fun _ z => nomatch z) (by decide) (by decide) (htsE (.classLink RL 48 "java/util/NoSuchElementException") (List.mem_append_right _ (by decide +kernel))) (va_Nw.use rfl (hE.1.2.2.2.2.2.2.2.2 (.castable "java/util/NoSuchElementException" "java/util/NoSuchElementException") (by decide +kernel))) g7 g8 g9 ?_
      refine lv_astore (lv' := [(4, .ref q9), (0, .ref (L 0 0)), (1, .int x0), (2, .int x1), (3, .ref o)]) hx hb dL_take_20 hl (by decide) rfl (fun ls hl => ?_)
      refine lv_iconst (v := 1) hx hb dL_take_22 (by decide) ?_
      exact m_iret (v := 1) hx hb hr hlocks hV hS (Or.inr (Or.inl ⟨rfl, hxp⟩)) dL_take_23
    · refine vx_catch (name := "java/lang/IndexOutOfBoundsException") hown [⟨0, 17, 20, 48⟩] ⟨0, 17, 24, 26⟩ [⟨0, 17, 28, 15⟩, ⟨0, 17, 32, 43⟩] htab (List.forall_mem_cons.mpr ⟨Or.inr ⟨by decide, "java/util/NoSuchElementException", htsE (.classLink RL 48 "java/util/NoSuchElementException") (List.mem_append_right _ (by decide +kernel)), hN ("java/lang/IndexOutOfBoundsException", "java/util/NoSuchElementException") (List.mem_of_getElem? (i := 8) rfl)⟩, (fun _ z => nomatch z)⟩) (by decide) (by decide) (htsE (.classLink RL 26 "java/lang/IndexOutOfBoundsException") (List.mem_append_right _ (by decide +kernel))) (va_Nw.use rfl (hE.1.2.2.2.2.2.2.2.2 (.castable "java/lang/IndexOutOfBoundsException" "java/lang/IndexOutOfBoundsException") (by decide +kernel))) g7 g8 g9 ?_
      refine lv_astore (lv' := [(4, .ref q9), (0, .ref (L 0 0)), (1, .int x0), (2, .int x1), (3, .ref o)]) hx hb dL_take_24 hl (by decide) rfl (fun ls hl => ?_)
      refine lv_iconst (v := 2) hx hb dL_take_26 (by decide) ?_
      exact m_iret (v := 2) hx hb hr hlocks hV hS (Or.inr (Or.inr (Or.inl ⟨rfl, hxp⟩))) dL_take_27
    · refine vx_catch (name := "java/lang/IllegalStateException") hown [⟨0, 17, 20, 48⟩, ⟨0, 17, 24, 26⟩] ⟨0, 17, 28, 15⟩ [⟨0, 17, 32, 43⟩] htab (List.forall_mem_cons.mpr ⟨Or.inr ⟨by decide, "java/util/NoSuchElementException", htsE (.classLink RL 48 "java/util/NoSuchElementException") (List.mem_append_right _ (by decide +kernel)), hN ("java/lang/IllegalStateException", "java/util/NoSuchElementException") (List.mem_of_getElem? (i := 6) rfl)⟩, (List.forall_mem_cons.mpr ⟨Or.inr ⟨by decide, "java/lang/IndexOutOfBoundsException", htsE (.classLink RL 26 "java/lang/IndexOutOfBoundsException") (List.mem_append_right _ (by decide +kernel)), hN ("java/lang/IllegalStateException", "java/lang/IndexOutOfBoundsException") (List.mem_of_getElem? (i := 2) rfl)⟩, (fun _ z => nomatch z)⟩)⟩) (by decide) (by decide) (htsE (.classLink RL 15 "java/lang/IllegalStateException") (List.mem_append_right _ (by decide +kernel))) (va_Nw.use rfl (hE.1.2.2.2.2.2.2.2.2 (.castable "java/lang/IllegalStateException" "java/lang/IllegalStateException") (by decide +kernel))) g7 g8 g9 ?_
      refine lv_astore (lv' := [(4, .ref q9), (0, .ref (L 0 0)), (1, .int x0), (2, .int x1), (3, .ref o)]) hx hb dL_take_28 hl (by decide) rfl (fun ls hl => ?_)
      refine lv_iconst (v := 3) hx hb dL_take_30 (by decide) ?_
      exact m_iret (v := 3) hx hb hr hlocks hV hS (Or.inr (Or.inr (Or.inr (Or.inl ⟨rfl, hxp⟩)))) dL_take_31
    · refine vx_catch (name := "java/lang/UnsupportedOperationException") hown [⟨0, 17, 20, 48⟩, ⟨0, 17, 24, 26⟩, ⟨0, 17, 28, 15⟩] ⟨0, 17, 32, 43⟩ [] htab (List.forall_mem_cons.mpr ⟨Or.inr ⟨by decide, "java/util/NoSuchElementException", htsE (.classLink RL 48 "java/util/NoSuchElementException") (List.mem_append_right _ (by decide +kernel)), hN ("java/lang/UnsupportedOperationException", "java/util/NoSuchElementException") (List.mem_of_getElem? (i := 7) rfl)⟩, (List.forall_mem_cons.mpr ⟨Or.inr ⟨by decide, "java/lang/IndexOutOfBoundsException", htsE (.classLink RL 26 "java/lang/IndexOutOfBoundsException") (List.mem_append_right _ (by decide +kernel)), hN ("java/lang/UnsupportedOperationException", "java/lang/IndexOutOfBoundsException") (List.mem_of_getElem? (i := 3) rfl)⟩, (List.forall_mem_cons.mpr ⟨Or.inr ⟨by decide, "java/lang/IllegalStateException", htsE (.classLink RL 15 "java/lang/IllegalStateException") (List.mem_append_right _ (by decide +kernel)), hN ("java/lang/UnsupportedOperationException", "java/lang/IllegalStateException") (List.mem_of_getElem? (i := 9) rfl)⟩, (fun _ z => nomatch z)⟩)⟩)⟩) (by decide) (by decide) (htsE (.classLink RL 43 "java/lang/UnsupportedOperationException") (List.mem_append_right _ (by decide +kernel))) (va_Nw.use rfl (hE.1.2.2.2.2.2.2.2.2 (.castable "java/lang/UnsupportedOperationException" "java/lang/UnsupportedOperationException") (by decide +kernel))) g7 g8 g9 ?_
      refine lv_astore (lv' := [(4, .ref q9), (0, .ref (L 0 0)), (1, .int x0), (2, .int x1), (3, .ref o)]) hx hb dL_take_32 hl (by decide) rfl (fun ls hl => ?_)
      refine lv_iconst (v := 4) hx hb dL_take_34 (by decide) ?_
      exact m_iret (v := 4) hx hb hr hlocks hV hS (Or.inr (Or.inr (Or.inr (Or.inr (⟨rfl, hxp⟩))))) dL_take_35
  · have ho1 : h1 o = some (.inl (cs.2.1, 1, .inr (.inl f))) := by
      rcases hp with ⟨_, _, _, _, _, _, _, ⟨_, k9, _⟩ | ⟨_, _, _, k9, _⟩⟩
      · exact (k9.out hoP).trans ho
      · exact (k9.out hoP).trans ho
    refine lv_if_eq (tgt := 15) hx hb dL_take_8 (by decide) (fun c8 => ?_) (fun c8 => ?_)
    · refine lv_lconst (v := 0) hx hb dL_take_15 (by decide) ?_
      refine m_last (Rp := fun h8 => h8 = mu h1 o (.inl (cs.2.1, 1, .inr (.inl (vp_updL f (0 : Int32).toNatClampNeg 0))))) hx hb hK hV hS 1 (i := 0) ⟨ho1, rfl⟩ rfl (show vp_in (nI 0) 1 from vp_in_nI (by decide) (by decide)) dL_take_16 (fun h8 H locs hV hS e8 => ?_)
      refine lv_goto (tgt := 36) hx hb dL_take_17 (by decide) ?_
      refine lv_iconst (v := 0) hx hb dL_take_36 (by decide) ?_
      exact m_iret (v := 0) hx hb hr hlocks hV hS (Or.inl ⟨rfl, r, h1, hp, ⟨_, by rw [e8]; exact mu_s _ _ _, by rw [if_pos c8]; rfl⟩, fun a ha => by rw [e8]; exact mu_n ha⟩) dL_take_37
    · refine lv_lconst (v := 1) hx hb dL_take_11 (by decide) ?_
      refine lv_goto (tgt := 16) hx hb dL_take_12 (by decide) ?_
      refine m_last (Rp := fun h8 => h8 = mu h1 o (.inl (cs.2.1, 1, .inr (.inl (vp_updL f (0 : Int32).toNatClampNeg 1))))) hx hb hK hV hS 1 (i := 0) ⟨ho1, rfl⟩ rfl (show vp_in (nI 0) 1 from vp_in_nI (by decide) (by decide)) dL_take_16 (fun h8 H locs hV hS e8 => ?_)
      refine lv_goto (tgt := 36) hx hb dL_take_17 (by decide) ?_
      refine lv_iconst (v := 0) hx hb dL_take_36 (by decide) ?_
      exact m_iret (v := 0) hx hb hr hlocks hV hS (Or.inl ⟨rfl, r, h1, hp, ⟨_, by rw [e8]; exact mu_s _ _ _, by rw [if_neg c8]; rfl⟩, fun a ha => by rw [e8]; exact mu_n ha⟩) dL_take_37
set_option maxHeartbeats 4000000 in
set_option maxRecDepth 100000 in
theorem c_L_release {l : Launch} (hfl : l.stackTraces = false) {D : va_G} {cs : mC} {df : Nat} {P : Nat → Prop} {L : KL} {σ : KS} {hh : mH} (sz : Nat) (hC : CRep cs df P hh L σ hh) (o : Nat) (f : Nat → Int64) (ho : hh o = some (.inl (cs.2.1, 1, .inr (.inl f)))) (hoP : ¬ P o) (x0 : Int32) : Met l yL_release (wsL_release ++ lxW) ({ frames := 7, cells := 1, slots := 6, locals := 149 }) (lPre [.ref (L 0 0), .int x0, .ref o] D cs df hh sz) (va_Qi (fun (r : Int32) (h1 : mH) => (r = 0 ∧ ∃ (v : Int32) (h9 : mH), (∃ w t, inR x0 (kN σ 62 3) = some w ∧ kO σ 50 w = some t ∧ CRep cs df P hh L (passS σ w) h9 ∧ v = oI (kO (passS σ w) 50 w)) ∧ oL cs h1 o v.toInt64 ∧ ∀ a, a ≠ o → h1 a = h9 a) ∨ (r = 1 ∧ (h1 = hh ∧ ("java/lang/IndexOutOfBoundsException" = "java/lang/IndexOutOfBoundsException" ∧ inR x0 (kN σ 62 3) = none ∨ "java/lang/IndexOutOfBoundsException" = "java/lang/IllegalStateException" ∧ ∃ w, inR x0 (kN σ 62 3) = some w ∧ kO σ 50 w = none))) ∨ (r = 2 ∧ (h1 = hh ∧ ("java/lang/IllegalStateException" = "java/lang/IndexOutOfBoundsException" ∧ inR x0 (kN σ 62 3) = none ∨ "java/lang/IllegalStateException" = "java/lang/IllegalStateException" ∧ ∃ w, inR x0 (kN σ 62 3) = some w ∧ kO σ 50 w = none)))) (mB D hh sz) (mA hh sz)) 1 6 (mA hh sz) := by
  refine va_MetW (cc := cL_release) (maxL := 4) (ret := (some .int)) (hh := [(0, 9, 12, 26), (0, 9, 15, 15)]) (by decide) rfl ?_
  intro p e s m args below meth c s₁ B0 hml hv
  obtain ⟨hargs, ⟨hsz, hV, hE⟩, hN⟩ := hv
  subst hsz
  have hx := B0.exec
  have hb := B0.bytes
  have hr := B0.returns
  have hlocks := B0.notSynchronized
  have htsE := atoms_spec (ws := wsL_release ++ lxW) B0.pre
  have hts : ∀ w ∈ wsL_release, w.before args s = true := fun w h => htsE w (List.mem_append_left _ h)
  have hown : s.vm.findClass RL = some m.cls := findClass_of_methodNamed B0.named
  have hK := hE.1.1
  have hA : ∀ q : Nat, s.heap.size ≤ q → mA hh s.heap.size q := mA.top
  have hS : va_S (mA hh s.heap.size) s.heap s.heap [] := va_S.rf
  have htab : c.exceptionTable.toList = tableOf [(0, 9, 12, 26), (0, 9, 15, 15)] := vx_table (x := objectInit) B0 (hts (.codeWith yL_release cL_release 4 (some .int) [(0, 9, 12, 26), (0, 9, 15, 15)]) (by decide +kernel))
  have hl := lv_entry ([.ref (L 0 0), .int x0, .ref o]) (n := 4) (by exact Nat.le_of_ble_eq_true rfl)
  have hent := lg_entry_eq m ([.ref (L 0 0), .int x0, .ref o]) 4
  rw [← hargs] at hent
  rw [hent]
  generalize (lg_sl ([.ref (L 0 0), .int x0, .ref o]) ++ List.replicate (4 - (lg_sl ([.ref (L 0 0), .int x0, .ref o])).length) Slot.unset).toArray = ls at hl ⊢
  replace hl : lv_has ls 4 [(0, .ref (L 0 0)), (1, .int x0), (2, .ref o)] := hl
  refine lv_aload_n hx hb dL_release_0 rfl (lv_at hl 2 rfl) ?_
  refine lv_iconst (v := 0) hx hb dL_release_1 (by decide) ?_
  refine lv_aload_n hx hb dL_release_2 rfl (lv_at hl 0 rfl) ?_
  refine lv_iload_n hx hb dL_release_3 rfl (lv_at hl 1 rfl) ?_
  refine m_xcalli (vx_runV (As := [.int x0]) (rest := [.int 0, .ref o]) ⟨hx, hb, hml, hown, hts⟩ (c_X4_release (l := l) hfl (s.heap.size) hC x0 ) (cwV 1 hts gL_release_X4_release rfl rfl rfl (by decide +kernel) ⟨by decide, by decide⟩) (m_preV (r := (RX4, TX4, 11)) hE hV hS hA (hC.at (k := 0) (i := 0) rfl) rfl) rfl rfl hl.1 rfl (lv_room (by exact Nat.le_of_ble_eq_true rfl)) dL_release_4 ⟨by decide, by decide⟩) hV hS hA (fun E ce q9 h1 H locs hV hS hxp _ g7 g8 g9 => ?_) (fun r h1 H locs hV hS hp _ => ?_)
  · have hE9 : E = "java/lang/IndexOutOfBoundsException" ∨ E = "java/lang/IllegalStateException" := hxp.2.elim (fun z => Or.inl z.1) (fun z => Or.inr z.1)
    rcases hE9 with rfl | rfl
    · refine vx_catch (name := "java/lang/IndexOutOfBoundsException") hown [] ⟨0, 9, 12, 26⟩ [⟨0, 9, 15, 15⟩] htab (fun _ z => nomatch z) (by decide) (by decide) (htsE (.classLink RL 26 "java/lang/IndexOutOfBoundsException") (List.mem_append_right _ (by decide +kernel))) (va_Nw.use rfl (hE.1.2.2.2.2.2.2.2.2 (.castable "java/lang/IndexOutOfBoundsException" "java/lang/IndexOutOfBoundsException") (by decide +kernel))) g7 g8 g9 ?_
      refine lv_astore_n (lv' := [(3, .ref q9), (0, .ref (L 0 0)), (1, .int x0), (2, .ref o)]) hx hb dL_release_12 rfl hl (by decide) rfl (fun ls hl => ?_)
      refine lv_iconst (v := 1) hx hb dL_release_13 (by decide) ?_
      exact m_iret (v := 1) hx hb hr hlocks hV hS (Or.inr (Or.inl ⟨rfl, hxp⟩)) dL_release_14
    · refine vx_catch (name := "java/lang/IllegalStateException") hown [⟨0, 9, 12, 26⟩] ⟨0, 9, 15, 15⟩ [] htab (List.forall_mem_cons.mpr ⟨Or.inr ⟨by decide, "java/lang/IndexOutOfBoundsException", htsE (.classLink RL 26 "java/lang/IndexOutOfBoundsException") (List.mem_append_right _ (by decide +kernel)), hN ("java/lang/IllegalStateException", "java/lang/IndexOutOfBoundsException") (List.mem_of_getElem? (i := 2) rfl)⟩, (fun _ z => nomatch z)⟩) (by decide) (by decide) (htsE (.classLink RL 15 "java/lang/IllegalStateException") (List.mem_append_right _ (by decide +kernel))) (va_Nw.use rfl (hE.1.2.2.2.2.2.2.2.2 (.castable "java/lang/IllegalStateException" "java/lang/IllegalStateException") (by decide +kernel))) g7 g8 g9 ?_
      refine lv_astore_n (lv' := [(3, .ref q9), (0, .ref (L 0 0)), (1, .int x0), (2, .ref o)]) hx hb dL_release_15 rfl hl (by decide) rfl (fun ls hl => ?_)
      refine lv_iconst (v := 2) hx hb dL_release_16 (by decide) ?_
      exact m_iret (v := 2) hx hb hr hlocks hV hS (Or.inr (Or.inr (⟨rfl, hxp⟩))) dL_release_17
  · have ho1 : h1 o = some (.inl (cs.2.1, 1, .inr (.inl f))) := by
      rcases hp with ⟨_, _, _, _, k9, _⟩
      exact (k9.out hoP).trans ho
    refine lv_i2l (v := r.toInt64) hx hb dL_release_7 rfl ?_
    refine m_last (Rp := fun h8 => h8 = mu h1 o (.inl (cs.2.1, 1, .inr (.inl (vp_updL f (0 : Int32).toNatClampNeg r.toInt64))))) hx hb hK hV hS 1 (i := 0) ⟨ho1, rfl⟩ rfl (show vp_in (nI 0) 1 from vp_in_nI (by decide) (by decide)) dL_release_8 (fun h8 H locs hV hS e8 => ?_)
    refine lv_goto (tgt := 18) hx hb dL_release_9 (by decide) ?_
    refine lv_iconst (v := 0) hx hb dL_release_18 (by decide) ?_
    exact m_iret (v := 0) hx hb hr hlocks hV hS (Or.inl ⟨rfl, r, h1, hp, ⟨_, by rw [e8]; exact mu_s _ _ _, rfl⟩, fun a ha => by rw [e8]; exact mu_n ha⟩) dL_release_19
set_option maxHeartbeats 4000000 in
set_option maxRecDepth 100000 in
theorem c_L_holderOf {l : Launch} (hfl : l.stackTraces = false) {D : va_G} {cs : mC} {df : Nat} {P : Nat → Prop} {L : KL} {σ : KS} {hh : mH} (sz : Nat) (hC : CRep cs df P hh L σ hh) (o : Nat) (f : Nat → Int64) (ho : hh o = some (.inl (cs.2.1, 1, .inr (.inl f)))) (hoP : ¬ P o) (x0 : Int32) : Met l yL_holderOf (wsL_holderOf ++ lxW) ({ frames := 7, cells := 1, slots := 6, locals := 112 }) (lPre [.ref (L 0 0), .int x0, .ref o] D cs df hh sz) (va_Qi (fun (r : Int32) (h1 : mH) => (r = 0 ∧ ∃ (v : Int32) (h9 : mH), (∃ t, inR x0 (kN σ 62 3) = some t ∧ h9 = hh ∧ v = oI (kO σ 50 t)) ∧ oL cs h1 o v.toInt64 ∧ ∀ a, a ≠ o → h1 a = h9 a) ∨ (r = 1 ∧ ("java/lang/IndexOutOfBoundsException" = "java/lang/IndexOutOfBoundsException" ∧ h1 = hh ∧ inR x0 (kN σ 62 3) = none))) (mB D hh sz) (mA hh sz)) 1 6 (mA hh sz) := by
  refine va_MetW (cc := cL_holderOf) (maxL := 4) (ret := (some .int)) (hh := [(0, 9, 12, 26)]) (by decide) rfl ?_
  intro p e s m args below meth c s₁ B0 hml hv
  obtain ⟨hargs, ⟨hsz, hV, hE⟩, hN⟩ := hv
  subst hsz
  have hx := B0.exec
  have hb := B0.bytes
  have hr := B0.returns
  have hlocks := B0.notSynchronized
  have htsE := atoms_spec (ws := wsL_holderOf ++ lxW) B0.pre
  have hts : ∀ w ∈ wsL_holderOf, w.before args s = true := fun w h => htsE w (List.mem_append_left _ h)
  have hown : s.vm.findClass RL = some m.cls := findClass_of_methodNamed B0.named
  have hK := hE.1.1
  have hA : ∀ q : Nat, s.heap.size ≤ q → mA hh s.heap.size q := mA.top
  have hS : va_S (mA hh s.heap.size) s.heap s.heap [] := va_S.rf
  have htab : c.exceptionTable.toList = tableOf [(0, 9, 12, 26)] := vx_table (x := objectInit) B0 (hts (.codeWith yL_holderOf cL_holderOf 4 (some .int) [(0, 9, 12, 26)]) (by decide +kernel))
  have hl := lv_entry ([.ref (L 0 0), .int x0, .ref o]) (n := 4) (by exact Nat.le_of_ble_eq_true rfl)
  have hent := lg_entry_eq m ([.ref (L 0 0), .int x0, .ref o]) 4
  rw [← hargs] at hent
  rw [hent]
  generalize (lg_sl ([.ref (L 0 0), .int x0, .ref o]) ++ List.replicate (4 - (lg_sl ([.ref (L 0 0), .int x0, .ref o])).length) Slot.unset).toArray = ls at hl ⊢
  replace hl : lv_has ls 4 [(0, .ref (L 0 0)), (1, .int x0), (2, .ref o)] := hl
  refine lv_aload_n hx hb dL_holderOf_0 rfl (lv_at hl 2 rfl) ?_
  refine lv_iconst (v := 0) hx hb dL_holderOf_1 (by decide) ?_
  refine lv_aload_n hx hb dL_holderOf_2 rfl (lv_at hl 0 rfl) ?_
  refine lv_iload_n hx hb dL_holderOf_3 rfl (lv_at hl 1 rfl) ?_
  refine m_xcalli (vx_runV (As := [.int x0]) (rest := [.int 0, .ref o]) ⟨hx, hb, hml, hown, hts⟩ (c_X4_holderOf (l := l) hfl (s.heap.size) hC x0 ) (cwV 1 hts gL_holderOf_X4_holderOf rfl rfl rfl (by decide +kernel) ⟨by decide, by decide⟩) (m_preV (r := (RX4, TX4, 11)) hE hV hS hA (hC.at (k := 0) (i := 0) rfl) rfl) rfl rfl hl.1 rfl (lv_room (by exact Nat.le_of_ble_eq_true rfl)) dL_holderOf_4 ⟨by decide, by decide⟩) hV hS hA (fun E ce q9 h1 H locs hV hS hxp _ g7 g8 g9 => ?_) (fun r h1 H locs hV hS hp _ => ?_)
  · have hE9 : E = "java/lang/IndexOutOfBoundsException" := hxp.1
    rcases hE9 with rfl
    refine vx_catch (name := "java/lang/IndexOutOfBoundsException") hown [] ⟨0, 9, 12, 26⟩ [] htab (fun _ z => nomatch z) (by decide) (by decide) (htsE (.classLink RL 26 "java/lang/IndexOutOfBoundsException") (List.mem_append_right _ (by decide +kernel))) (va_Nw.use rfl (hE.1.2.2.2.2.2.2.2.2 (.castable "java/lang/IndexOutOfBoundsException" "java/lang/IndexOutOfBoundsException") (by decide +kernel))) g7 g8 g9 ?_
    refine lv_astore_n (lv' := [(3, .ref q9), (0, .ref (L 0 0)), (1, .int x0), (2, .ref o)]) hx hb dL_holderOf_12 rfl hl (by decide) rfl (fun ls hl => ?_)
    refine lv_iconst (v := 1) hx hb dL_holderOf_13 (by decide) ?_
    exact m_iret (v := 1) hx hb hr hlocks hV hS (Or.inr (⟨rfl, hxp⟩)) dL_holderOf_14
  · have ho1 : h1 o = some (.inl (cs.2.1, 1, .inr (.inl f))) := by
      rcases hp with ⟨_, _, e9, _⟩
      rw [e9]; exact ho
    refine lv_i2l (v := r.toInt64) hx hb dL_holderOf_7 rfl ?_
    refine m_last (Rp := fun h8 => h8 = mu h1 o (.inl (cs.2.1, 1, .inr (.inl (vp_updL f (0 : Int32).toNatClampNeg r.toInt64))))) hx hb hK hV hS 1 (i := 0) ⟨ho1, rfl⟩ rfl (show vp_in (nI 0) 1 from vp_in_nI (by decide) (by decide)) dL_holderOf_8 (fun h8 H locs hV hS e8 => ?_)
    refine lv_goto (tgt := 15) hx hb dL_holderOf_9 (by decide) ?_
    refine lv_iconst (v := 0) hx hb dL_holderOf_15 (by decide) ?_
    exact m_iret (v := 0) hx hb hr hlocks hV hS (Or.inl ⟨rfl, r, h1, hp, ⟨_, by rw [e8]; exact mu_s _ _ _, rfl⟩, fun a ha => by rw [e8]; exact mu_n ha⟩) dL_holderOf_16
set_option maxHeartbeats 4000000 in
set_option maxRecDepth 100000 in
theorem c_L_waiterAt {l : Launch} (hfl : l.stackTraces = false) {D : va_G} {cs : mC} {df : Nat} {P : Nat → Prop} {L : KL} {σ : KS} {hh : mH} (sz : Nat) (hC : CRep cs df P hh L σ hh) (o : Nat) (f : Nat → Int64) (ho : hh o = some (.inl (cs.2.1, 1, .inr (.inl f)))) (hoP : ¬ P o) (x0 : Int32) (x1 : Int32) : Met l yL_waiterAt (wsL_waiterAt ++ lxW) ({ frames := 7, cells := 1, slots := 6, locals := 113 }) (lPre [.ref (L 0 0), .int x0, .int x1, .ref o] D cs df hh sz) (va_Qi (fun (r : Int32) (h1 : mH) => (r = 0 ∧ ∃ (v : Int32) (h9 : mH), (∃ w i, inR x0 (kN σ 62 3) = some w ∧ inR x1 (kN σ 62 (4 + w)) = some i ∧ h9 = hh ∧ v = nI ((kL σ (4 + w)).getD i 0)) ∧ oL cs h1 o v.toInt64 ∧ ∀ a, a ≠ o → h1 a = h9 a) ∨ (r = 1 ∧ (h1 = hh ∧ ("java/lang/IndexOutOfBoundsException" = "java/lang/IndexOutOfBoundsException" ∧ inR x0 (kN σ 62 3) = none ∨ "java/lang/IndexOutOfBoundsException" = "java/util/NoSuchElementException" ∧ ∃ w, inR x0 (kN σ 62 3) = some w ∧ inR x1 (kN σ 62 (4 + w)) = none))) ∨ (r = 2 ∧ (h1 = hh ∧ ("java/util/NoSuchElementException" = "java/lang/IndexOutOfBoundsException" ∧ inR x0 (kN σ 62 3) = none ∨ "java/util/NoSuchElementException" = "java/util/NoSuchElementException" ∧ ∃ w, inR x0 (kN σ 62 3) = some w ∧ inR x1 (kN σ 62 (4 + w)) = none)))) (mB D hh sz) (mA hh sz)) 1 6 (mA hh sz) := by
  refine va_MetW (cc := cL_waiterAt) (maxL := 5) (ret := (some .int)) (hh := [(0, 10, 13, 26), (0, 10, 17, 48)]) (by decide) rfl ?_
  intro p e s m args below meth c s₁ B0 hml hv
  obtain ⟨hargs, ⟨hsz, hV, hE⟩, hN⟩ := hv
  subst hsz
  have hx := B0.exec
  have hb := B0.bytes
  have hr := B0.returns
  have hlocks := B0.notSynchronized
  have htsE := atoms_spec (ws := wsL_waiterAt ++ lxW) B0.pre
  have hts : ∀ w ∈ wsL_waiterAt, w.before args s = true := fun w h => htsE w (List.mem_append_left _ h)
  have hown : s.vm.findClass RL = some m.cls := findClass_of_methodNamed B0.named
  have hK := hE.1.1
  have hA : ∀ q : Nat, s.heap.size ≤ q → mA hh s.heap.size q := mA.top
  have hS : va_S (mA hh s.heap.size) s.heap s.heap [] := va_S.rf
  have htab : c.exceptionTable.toList = tableOf [(0, 10, 13, 26), (0, 10, 17, 48)] := vx_table (x := objectInit) B0 (hts (.codeWith yL_waiterAt cL_waiterAt 5 (some .int) [(0, 10, 13, 26), (0, 10, 17, 48)]) (by decide +kernel))
  have hl := lv_entry ([.ref (L 0 0), .int x0, .int x1, .ref o]) (n := 5) (by exact Nat.le_of_ble_eq_true rfl)
  have hent := lg_entry_eq m ([.ref (L 0 0), .int x0, .int x1, .ref o]) 5
  rw [← hargs] at hent
  rw [hent]
  generalize (lg_sl ([.ref (L 0 0), .int x0, .int x1, .ref o]) ++ List.replicate (5 - (lg_sl ([.ref (L 0 0), .int x0, .int x1, .ref o])).length) Slot.unset).toArray = ls at hl ⊢
  replace hl : lv_has ls 5 [(0, .ref (L 0 0)), (1, .int x0), (2, .int x1), (3, .ref o)] := hl
  refine lv_aload_n hx hb dL_waiterAt_0 rfl (lv_at hl 3 rfl) ?_
  refine lv_iconst (v := 0) hx hb dL_waiterAt_1 (by decide) ?_
  refine lv_aload_n hx hb dL_waiterAt_2 rfl (lv_at hl 0 rfl) ?_
  refine lv_iload_n hx hb dL_waiterAt_3 rfl (lv_at hl 1 rfl) ?_
  refine lv_iload_n hx hb dL_waiterAt_4 rfl (lv_at hl 2 rfl) ?_
  refine m_xcalli (vx_runV (As := [.int x0, .int x1]) (rest := [.int 0, .ref o]) ⟨hx, hb, hml, hown, hts⟩ (c_X4_waiterAt (l := l) hfl (s.heap.size) hC x0 x1 ) (cwV 2 hts gL_waiterAt_X4_waiterAt rfl rfl rfl (by decide +kernel) ⟨by decide, by decide⟩) (m_preV (r := (RX4, TX4, 11)) hE hV hS hA (hC.at (k := 0) (i := 0) rfl) rfl) rfl rfl hl.1 rfl (lv_room (by exact Nat.le_of_ble_eq_true rfl)) dL_waiterAt_5 ⟨by decide, by decide⟩) hV hS hA (fun E ce q9 h1 H locs hV hS hxp _ g7 g8 g9 => ?_) (fun r h1 H locs hV hS hp _ => ?_)
  · have hE9 : E = "java/lang/IndexOutOfBoundsException" ∨ E = "java/util/NoSuchElementException" := hxp.2.elim (fun z => Or.inl z.1) (fun z => Or.inr z.1)
    rcases hE9 with rfl | rfl
    · refine vx_catch (name := "java/lang/IndexOutOfBoundsException") hown [] ⟨0, 10, 13, 26⟩ [⟨0, 10, 17, 48⟩] htab (fun _ z => nomatch z) (by decide) (by decide) (htsE (.classLink RL 26 "java/lang/IndexOutOfBoundsException") (List.mem_append_right _ (by decide +kernel))) (va_Nw.use rfl (hE.1.2.2.2.2.2.2.2.2 (.castable "java/lang/IndexOutOfBoundsException" "java/lang/IndexOutOfBoundsException") (by decide +kernel))) g7 g8 g9 ?_
      refine lv_astore (lv' := [(4, .ref q9), (0, .ref (L 0 0)), (1, .int x0), (2, .int x1), (3, .ref o)]) hx hb dL_waiterAt_13 hl (by decide) rfl (fun ls hl => ?_)
      refine lv_iconst (v := 1) hx hb dL_waiterAt_15 (by decide) ?_
      exact m_iret (v := 1) hx hb hr hlocks hV hS (Or.inr (Or.inl ⟨rfl, hxp⟩)) dL_waiterAt_16
    · refine vx_catch (name := "java/util/NoSuchElementException") hown [⟨0, 10, 13, 26⟩] ⟨0, 10, 17, 48⟩ [] htab (List.forall_mem_cons.mpr ⟨Or.inr ⟨by decide, "java/lang/IndexOutOfBoundsException", htsE (.classLink RL 26 "java/lang/IndexOutOfBoundsException") (List.mem_append_right _ (by decide +kernel)), hN ("java/util/NoSuchElementException", "java/lang/IndexOutOfBoundsException") (List.mem_of_getElem? (i := 10) rfl)⟩, (fun _ z => nomatch z)⟩) (by decide) (by decide) (htsE (.classLink RL 48 "java/util/NoSuchElementException") (List.mem_append_right _ (by decide +kernel))) (va_Nw.use rfl (hE.1.2.2.2.2.2.2.2.2 (.castable "java/util/NoSuchElementException" "java/util/NoSuchElementException") (by decide +kernel))) g7 g8 g9 ?_
      refine lv_astore (lv' := [(4, .ref q9), (0, .ref (L 0 0)), (1, .int x0), (2, .int x1), (3, .ref o)]) hx hb dL_waiterAt_17 hl (by decide) rfl (fun ls hl => ?_)
      refine lv_iconst (v := 2) hx hb dL_waiterAt_19 (by decide) ?_
      exact m_iret (v := 2) hx hb hr hlocks hV hS (Or.inr (Or.inr (⟨rfl, hxp⟩))) dL_waiterAt_20
  · have ho1 : h1 o = some (.inl (cs.2.1, 1, .inr (.inl f))) := by
      rcases hp with ⟨_, _, _, _, e9, _⟩
      rw [e9]; exact ho
    refine lv_i2l (v := r.toInt64) hx hb dL_waiterAt_8 rfl ?_
    refine m_last (Rp := fun h8 => h8 = mu h1 o (.inl (cs.2.1, 1, .inr (.inl (vp_updL f (0 : Int32).toNatClampNeg r.toInt64))))) hx hb hK hV hS 1 (i := 0) ⟨ho1, rfl⟩ rfl (show vp_in (nI 0) 1 from vp_in_nI (by decide) (by decide)) dL_waiterAt_9 (fun h8 H locs hV hS e8 => ?_)
    refine lv_goto (tgt := 21) hx hb dL_waiterAt_10 (by decide) ?_
    refine lv_iconst (v := 0) hx hb dL_waiterAt_21 (by decide) ?_
    exact m_iret (v := 0) hx hb hr hlocks hV hS (Or.inl ⟨rfl, r, h1, hp, ⟨_, by rw [e8]; exact mu_s _ _ _, rfl⟩, fun a ha => by rw [e8]; exact mu_n ha⟩) dL_waiterAt_22
set_option maxHeartbeats 4000000 in
set_option maxRecDepth 100000 in
theorem c_L_choice {l : Launch} (hfl : l.stackTraces = false) {D : va_G} {cs : mC} {df : Nat} {P : Nat → Prop} {L : KL} {σ : KS} {hh : mH} (sz : Nat) (hC : CRep cs df P hh L σ hh) (o : Nat) (f : Nat → Int64) (ho : hh o = some (.inl (cs.2.1, 1, .inr (.inl f)))) (hoP : ¬ P o) (x0 : Int32) : Met l yL_choice (wsL_choice ++ lxW) ({ frames := 7, cells := 1, slots := 6, locals := 161 }) (lPre [.ref (L 0 0), .int x0, .ref o] D cs df hh sz) (va_Qi (fun (r : Int32) (h1 : mH) => (r = 0 ∧ ∃ (v : Int32) (h9 : mH), (∃ t, inR x0 (kN σ 62 0) = some t ∧ CRep cs df P hh L (choS true σ) h9 ∧ v = oI (kO (choS true σ) 12 t)) ∧ oL cs h1 o v.toInt64 ∧ ∀ a, a ≠ o → h1 a = h9 a) ∨ (r = 1 ∧ ("java/lang/IndexOutOfBoundsException" = "java/lang/IndexOutOfBoundsException" ∧ h1 = hh ∧ inR x0 (kN σ 62 0) = none))) (mB D hh sz) (mA hh sz)) 1 6 (mA hh sz) := by
  refine va_MetW (cc := cL_choice) (maxL := 4) (ret := (some .int)) (hh := [(0, 9, 12, 26)]) (by decide) rfl ?_
  intro p e s m args below meth c s₁ B0 hml hv
  obtain ⟨hargs, ⟨hsz, hV, hE⟩, hN⟩ := hv
  subst hsz
  have hx := B0.exec
  have hb := B0.bytes
  have hr := B0.returns
  have hlocks := B0.notSynchronized
  have htsE := atoms_spec (ws := wsL_choice ++ lxW) B0.pre
  have hts : ∀ w ∈ wsL_choice, w.before args s = true := fun w h => htsE w (List.mem_append_left _ h)
  have hown : s.vm.findClass RL = some m.cls := findClass_of_methodNamed B0.named
  have hK := hE.1.1
  have hA : ∀ q : Nat, s.heap.size ≤ q → mA hh s.heap.size q := mA.top
  have hS : va_S (mA hh s.heap.size) s.heap s.heap [] := va_S.rf
  have htab : c.exceptionTable.toList = tableOf [(0, 9, 12, 26)] := vx_table (x := objectInit) B0 (hts (.codeWith yL_choice cL_choice 4 (some .int) [(0, 9, 12, 26)]) (by decide +kernel))
  have hl := lv_entry ([.ref (L 0 0), .int x0, .ref o]) (n := 4) (by exact Nat.le_of_ble_eq_true rfl)
  have hent := lg_entry_eq m ([.ref (L 0 0), .int x0, .ref o]) 4
  rw [← hargs] at hent
  rw [hent]
  generalize (lg_sl ([.ref (L 0 0), .int x0, .ref o]) ++ List.replicate (4 - (lg_sl ([.ref (L 0 0), .int x0, .ref o])).length) Slot.unset).toArray = ls at hl ⊢
  replace hl : lv_has ls 4 [(0, .ref (L 0 0)), (1, .int x0), (2, .ref o)] := hl
  refine lv_aload_n hx hb dL_choice_0 rfl (lv_at hl 2 rfl) ?_
  refine lv_iconst (v := 0) hx hb dL_choice_1 (by decide) ?_
  refine lv_aload_n hx hb dL_choice_2 rfl (lv_at hl 0 rfl) ?_
  refine lv_iload_n hx hb dL_choice_3 rfl (lv_at hl 1 rfl) ?_
  refine m_xcalli (vx_runV (As := [.int x0]) (rest := [.int 0, .ref o]) ⟨hx, hb, hml, hown, hts⟩ (c_X4_choice (l := l) hfl (s.heap.size) hC x0 ) (cwV 1 hts gL_choice_X4_choice rfl rfl rfl (by decide +kernel) ⟨by decide, by decide⟩) (m_preV (r := (RX4, TX4, 11)) hE hV hS hA (hC.at (k := 0) (i := 0) rfl) rfl) rfl rfl hl.1 rfl (lv_room (by exact Nat.le_of_ble_eq_true rfl)) dL_choice_4 ⟨by decide, by decide⟩) hV hS hA (fun E ce q9 h1 H locs hV hS hxp _ g7 g8 g9 => ?_) (fun r h1 H locs hV hS hp _ => ?_)
  · have hE9 : E = "java/lang/IndexOutOfBoundsException" := hxp.1
    rcases hE9 with rfl
    refine vx_catch (name := "java/lang/IndexOutOfBoundsException") hown [] ⟨0, 9, 12, 26⟩ [] htab (fun _ z => nomatch z) (by decide) (by decide) (htsE (.classLink RL 26 "java/lang/IndexOutOfBoundsException") (List.mem_append_right _ (by decide +kernel))) (va_Nw.use rfl (hE.1.2.2.2.2.2.2.2.2 (.castable "java/lang/IndexOutOfBoundsException" "java/lang/IndexOutOfBoundsException") (by decide +kernel))) g7 g8 g9 ?_
    refine lv_astore_n (lv' := [(3, .ref q9), (0, .ref (L 0 0)), (1, .int x0), (2, .ref o)]) hx hb dL_choice_12 rfl hl (by decide) rfl (fun ls hl => ?_)
    refine lv_iconst (v := 1) hx hb dL_choice_13 (by decide) ?_
    exact m_iret (v := 1) hx hb hr hlocks hV hS (Or.inr (⟨rfl, hxp⟩)) dL_choice_14
  · have ho1 : h1 o = some (.inl (cs.2.1, 1, .inr (.inl f))) := by
      rcases hp with ⟨_, _, k9, _⟩
      exact (k9.out hoP).trans ho
    refine lv_i2l (v := r.toInt64) hx hb dL_choice_7 rfl ?_
    refine m_last (Rp := fun h8 => h8 = mu h1 o (.inl (cs.2.1, 1, .inr (.inl (vp_updL f (0 : Int32).toNatClampNeg r.toInt64))))) hx hb hK hV hS 1 (i := 0) ⟨ho1, rfl⟩ rfl (show vp_in (nI 0) 1 from vp_in_nI (by decide) (by decide)) dL_choice_8 (fun h8 H locs hV hS e8 => ?_)
    refine lv_goto (tgt := 15) hx hb dL_choice_9 (by decide) ?_
    refine lv_iconst (v := 0) hx hb dL_choice_15 (by decide) ?_
    exact m_iret (v := 0) hx hb hr hlocks hV hS (Or.inl ⟨rfl, r, h1, hp, ⟨_, by rw [e8]; exact mu_s _ _ _, rfl⟩, fun a ha => by rw [e8]; exact mu_n ha⟩) dL_choice_16
set_option maxHeartbeats 4000000 in
set_option maxRecDepth 100000 in
theorem c_L_choiceByComparing {l : Launch} (hfl : l.stackTraces = false) {D : va_G} {cs : mC} {df : Nat} {P : Nat → Prop} {L : KL} {σ : KS} {hh : mH} (sz : Nat) (hC : CRep cs df P hh L σ hh) (o : Nat) (f : Nat → Int64) (ho : hh o = some (.inl (cs.2.1, 1, .inr (.inl f)))) (hoP : ¬ P o) (x0 : Int32) : Met l yL_choiceByComparing (wsL_choiceByComparing ++ lxW) ({ frames := 7, cells := 1, slots := 6, locals := 161 }) (lPre [.ref (L 0 0), .int x0, .ref o] D cs df hh sz) (va_Qi (fun (r : Int32) (h1 : mH) => (r = 0 ∧ ∃ (v : Int32) (h9 : mH), (∃ t, inR x0 (kN σ 62 0) = some t ∧ CRep cs df P hh L (choS false σ) h9 ∧ v = oI (kO (choS false σ) 12 t)) ∧ oL cs h1 o v.toInt64 ∧ ∀ a, a ≠ o → h1 a = h9 a) ∨ (r = 1 ∧ ("java/lang/IndexOutOfBoundsException" = "java/lang/IndexOutOfBoundsException" ∧ h1 = hh ∧ inR x0 (kN σ 62 0) = none))) (mB D hh sz) (mA hh sz)) 1 6 (mA hh sz) := by
  refine va_MetW (cc := cL_choiceByComparing) (maxL := 4) (ret := (some .int)) (hh := [(0, 9, 12, 26)]) (by decide) rfl ?_
  intro p e s m args below meth c s₁ B0 hml hv
  obtain ⟨hargs, ⟨hsz, hV, hE⟩, hN⟩ := hv
  subst hsz
  have hx := B0.exec
  have hb := B0.bytes
  have hr := B0.returns
  have hlocks := B0.notSynchronized
  have htsE := atoms_spec (ws := wsL_choiceByComparing ++ lxW) B0.pre
  have hts : ∀ w ∈ wsL_choiceByComparing, w.before args s = true := fun w h => htsE w (List.mem_append_left _ h)
  have hown : s.vm.findClass RL = some m.cls := findClass_of_methodNamed B0.named
  have hK := hE.1.1
  have hA : ∀ q : Nat, s.heap.size ≤ q → mA hh s.heap.size q := mA.top
  have hS : va_S (mA hh s.heap.size) s.heap s.heap [] := va_S.rf
  have htab : c.exceptionTable.toList = tableOf [(0, 9, 12, 26)] := vx_table (x := objectInit) B0 (hts (.codeWith yL_choiceByComparing cL_choiceByComparing 4 (some .int) [(0, 9, 12, 26)]) (by decide +kernel))
  have hl := lv_entry ([.ref (L 0 0), .int x0, .ref o]) (n := 4) (by exact Nat.le_of_ble_eq_true rfl)
  have hent := lg_entry_eq m ([.ref (L 0 0), .int x0, .ref o]) 4
  rw [← hargs] at hent
  rw [hent]
  generalize (lg_sl ([.ref (L 0 0), .int x0, .ref o]) ++ List.replicate (4 - (lg_sl ([.ref (L 0 0), .int x0, .ref o])).length) Slot.unset).toArray = ls at hl ⊢
  replace hl : lv_has ls 4 [(0, .ref (L 0 0)), (1, .int x0), (2, .ref o)] := hl
  refine lv_aload_n hx hb dL_choiceByComparing_0 rfl (lv_at hl 2 rfl) ?_
  refine lv_iconst (v := 0) hx hb dL_choiceByComparing_1 (by decide) ?_
  refine lv_aload_n hx hb dL_choiceByComparing_2 rfl (lv_at hl 0 rfl) ?_
  refine lv_iload_n hx hb dL_choiceByComparing_3 rfl (lv_at hl 1 rfl) ?_
  refine m_xcalli (vx_runV (As := [.int x0]) (rest := [.int 0, .ref o]) ⟨hx, hb, hml, hown, hts⟩ (c_X4_choiceByComparing (l := l) hfl (s.heap.size) hC x0 ) (cwV 1 hts gL_choiceByComparing_X4_choiceByComparing rfl rfl rfl (by decide +kernel) ⟨by decide, by decide⟩) (m_preV (r := (RX4, TX4, 11)) hE hV hS hA (hC.at (k := 0) (i := 0) rfl) rfl) rfl rfl hl.1 rfl (lv_room (by exact Nat.le_of_ble_eq_true rfl)) dL_choiceByComparing_4 ⟨by decide, by decide⟩) hV hS hA (fun E ce q9 h1 H locs hV hS hxp _ g7 g8 g9 => ?_) (fun r h1 H locs hV hS hp _ => ?_)
  · have hE9 : E = "java/lang/IndexOutOfBoundsException" := hxp.1
    rcases hE9 with rfl
    refine vx_catch (name := "java/lang/IndexOutOfBoundsException") hown [] ⟨0, 9, 12, 26⟩ [] htab (fun _ z => nomatch z) (by decide) (by decide) (htsE (.classLink RL 26 "java/lang/IndexOutOfBoundsException") (List.mem_append_right _ (by decide +kernel))) (va_Nw.use rfl (hE.1.2.2.2.2.2.2.2.2 (.castable "java/lang/IndexOutOfBoundsException" "java/lang/IndexOutOfBoundsException") (by decide +kernel))) g7 g8 g9 ?_
    refine lv_astore_n (lv' := [(3, .ref q9), (0, .ref (L 0 0)), (1, .int x0), (2, .ref o)]) hx hb dL_choiceByComparing_12 rfl hl (by decide) rfl (fun ls hl => ?_)
    refine lv_iconst (v := 1) hx hb dL_choiceByComparing_13 (by decide) ?_
    exact m_iret (v := 1) hx hb hr hlocks hV hS (Or.inr (⟨rfl, hxp⟩)) dL_choiceByComparing_14
  · have ho1 : h1 o = some (.inl (cs.2.1, 1, .inr (.inl f))) := by
      rcases hp with ⟨_, _, k9, _⟩
      exact (k9.out hoP).trans ho
    refine lv_i2l (v := r.toInt64) hx hb dL_choiceByComparing_7 rfl ?_
    refine m_last (Rp := fun h8 => h8 = mu h1 o (.inl (cs.2.1, 1, .inr (.inl (vp_updL f (0 : Int32).toNatClampNeg r.toInt64))))) hx hb hK hV hS 1 (i := 0) ⟨ho1, rfl⟩ rfl (show vp_in (nI 0) 1 from vp_in_nI (by decide) (by decide)) dL_choiceByComparing_8 (fun h8 H locs hV hS e8 => ?_)
    refine lv_goto (tgt := 15) hx hb dL_choiceByComparing_9 (by decide) ?_
    refine lv_iconst (v := 0) hx hb dL_choiceByComparing_15 (by decide) ?_
    exact m_iret (v := 0) hx hb hr hlocks hV hS (Or.inl ⟨rfl, r, h1, hp, ⟨_, by rw [e8]; exact mu_s _ _ _, rfl⟩, fun a ha => by rw [e8]; exact mu_n ha⟩) dL_choiceByComparing_16
set_option maxHeartbeats 4000000 in
set_option maxRecDepth 100000 in
theorem c_L_pass {l : Launch} (hfl : l.stackTraces = false) {D : va_G} {cs : mC} {df : Nat} {P : Nat → Prop} {L : KL} {σ : KS} {hh : mH} (sz : Nat) (hC : CRep cs df P hh L σ hh) (o : Nat) (f : Nat → Int64) (ho : hh o = some (.inl (cs.2.1, 1, .inr (.inl f)))) (hoP : ¬ P o) (x0 : Int32) : Met l yL_pass (wsL_pass ++ lxW) ({ frames := 8, cells := 1, slots := 6, locals := 184 }) (lPre [.ref (L 0 0), .int x0, .ref o] D cs df hh sz) (va_Qi (fun (r : Int32) (h1 : mH) => (r = 0 ∧ ∃ (v : Int32) (h9 : mH), (∃ n, inR x0 51 = some n ∧ 1 ≤ n ∧ kI σ 2 0 + x0 ≤ 900 ∧ CRep cs df P hh L (tkN n σ) h9 ∧ v = kI (tkN n σ) 24 0 - kI σ 24 0) ∧ oL cs h1 o v.toInt64 ∧ ∀ a, a ≠ o → h1 a = h9 a) ∨ (r = 1 ∧ (h1 = hh ∧ ("java/lang/IllegalArgumentException" = "java/lang/IllegalArgumentException" ∧ (x0 < 1 ∨ 50 < x0) ∨ "java/lang/IllegalArgumentException" = "java/lang/IllegalStateException" ∧ ¬ x0 < 1 ∧ x0 ≤ 50 ∧ ¬ kI σ 2 0 + x0 ≤ 900))) ∨ (r = 2 ∧ (h1 = hh ∧ ("java/lang/IllegalStateException" = "java/lang/IllegalArgumentException" ∧ (x0 < 1 ∨ 50 < x0) ∨ "java/lang/IllegalStateException" = "java/lang/IllegalStateException" ∧ ¬ x0 < 1 ∧ x0 ≤ 50 ∧ ¬ kI σ 2 0 + x0 ≤ 900)))) (mB D hh sz) (mA hh sz)) 1 6 (mA hh sz) := by
  refine va_MetW (cc := cL_pass) (maxL := 4) (ret := (some .int)) (hh := [(0, 9, 12, 13), (0, 9, 15, 15)]) (by decide) rfl ?_
  intro p e s m args below meth c s₁ B0 hml hv
  obtain ⟨hargs, ⟨hsz, hV, hE⟩, hN⟩ := hv
  subst hsz
  have hx := B0.exec
  have hb := B0.bytes
  have hr := B0.returns
  have hlocks := B0.notSynchronized
  have htsE := atoms_spec (ws := wsL_pass ++ lxW) B0.pre
  have hts : ∀ w ∈ wsL_pass, w.before args s = true := fun w h => htsE w (List.mem_append_left _ h)
  have hown : s.vm.findClass RL = some m.cls := findClass_of_methodNamed B0.named
  have hK := hE.1.1
  have hA : ∀ q : Nat, s.heap.size ≤ q → mA hh s.heap.size q := mA.top
  have hS : va_S (mA hh s.heap.size) s.heap s.heap [] := va_S.rf
  have htab : c.exceptionTable.toList = tableOf [(0, 9, 12, 13), (0, 9, 15, 15)] := vx_table (x := objectInit) B0 (hts (.codeWith yL_pass cL_pass 4 (some .int) [(0, 9, 12, 13), (0, 9, 15, 15)]) (by decide +kernel))
  have hl := lv_entry ([.ref (L 0 0), .int x0, .ref o]) (n := 4) (by exact Nat.le_of_ble_eq_true rfl)
  have hent := lg_entry_eq m ([.ref (L 0 0), .int x0, .ref o]) 4
  rw [← hargs] at hent
  rw [hent]
  generalize (lg_sl ([.ref (L 0 0), .int x0, .ref o]) ++ List.replicate (4 - (lg_sl ([.ref (L 0 0), .int x0, .ref o])).length) Slot.unset).toArray = ls at hl ⊢
  replace hl : lv_has ls 4 [(0, .ref (L 0 0)), (1, .int x0), (2, .ref o)] := hl
  refine lv_aload_n hx hb dL_pass_0 rfl (lv_at hl 2 rfl) ?_
  refine lv_iconst (v := 0) hx hb dL_pass_1 (by decide) ?_
  refine lv_aload_n hx hb dL_pass_2 rfl (lv_at hl 0 rfl) ?_
  refine lv_iload_n hx hb dL_pass_3 rfl (lv_at hl 1 rfl) ?_
  refine m_xcalli (vx_runV (As := [.int x0]) (rest := [.int 0, .ref o]) ⟨hx, hb, hml, hown, hts⟩ (c_X4_pass (l := l) hfl (s.heap.size) hC x0 ) (cwV 1 hts gL_pass_X4_pass rfl rfl rfl (by decide +kernel) ⟨by decide, by decide⟩) (m_preV (r := (RX4, TX4, 11)) hE hV hS hA (hC.at (k := 0) (i := 0) rfl) rfl) rfl rfl hl.1 rfl (lv_room (by exact Nat.le_of_ble_eq_true rfl)) dL_pass_4 ⟨by decide, by decide⟩) hV hS hA (fun E ce q9 h1 H locs hV hS hxp _ g7 g8 g9 => ?_) (fun r h1 H locs hV hS hp _ => ?_)
  · have hE9 : E = "java/lang/IllegalArgumentException" ∨ E = "java/lang/IllegalStateException" := hxp.2.elim (fun z => Or.inl z.1) (fun z => Or.inr z.1)
    rcases hE9 with rfl | rfl
    · refine vx_catch (name := "java/lang/IllegalArgumentException") hown [] ⟨0, 9, 12, 13⟩ [⟨0, 9, 15, 15⟩] htab (fun _ z => nomatch z) (by decide) (by decide) (htsE (.classLink RL 13 "java/lang/IllegalArgumentException") (List.mem_append_right _ (by decide +kernel))) (va_Nw.use rfl (hE.1.2.2.2.2.2.2.2.2 (.castable "java/lang/IllegalArgumentException" "java/lang/IllegalArgumentException") (by decide +kernel))) g7 g8 g9 ?_
      refine lv_astore_n (lv' := [(3, .ref q9), (0, .ref (L 0 0)), (1, .int x0), (2, .ref o)]) hx hb dL_pass_12 rfl hl (by decide) rfl (fun ls hl => ?_)
      refine lv_iconst (v := 1) hx hb dL_pass_13 (by decide) ?_
      exact m_iret (v := 1) hx hb hr hlocks hV hS (Or.inr (Or.inl ⟨rfl, hxp⟩)) dL_pass_14
    · refine vx_catch (name := "java/lang/IllegalStateException") hown [⟨0, 9, 12, 13⟩] ⟨0, 9, 15, 15⟩ [] htab (List.forall_mem_cons.mpr ⟨Or.inr ⟨by decide, "java/lang/IllegalArgumentException", htsE (.classLink RL 13 "java/lang/IllegalArgumentException") (List.mem_append_right _ (by decide +kernel)), hN ("java/lang/IllegalStateException", "java/lang/IllegalArgumentException") (List.mem_of_getElem? (i := 0) rfl)⟩, (fun _ z => nomatch z)⟩) (by decide) (by decide) (htsE (.classLink RL 15 "java/lang/IllegalStateException") (List.mem_append_right _ (by decide +kernel))) (va_Nw.use rfl (hE.1.2.2.2.2.2.2.2.2 (.castable "java/lang/IllegalStateException" "java/lang/IllegalStateException") (by decide +kernel))) g7 g8 g9 ?_
      refine lv_astore_n (lv' := [(3, .ref q9), (0, .ref (L 0 0)), (1, .int x0), (2, .ref o)]) hx hb dL_pass_15 rfl hl (by decide) rfl (fun ls hl => ?_)
      refine lv_iconst (v := 2) hx hb dL_pass_16 (by decide) ?_
      exact m_iret (v := 2) hx hb hr hlocks hV hS (Or.inr (Or.inr (⟨rfl, hxp⟩))) dL_pass_17
  · have ho1 : h1 o = some (.inl (cs.2.1, 1, .inr (.inl f))) := by
      rcases hp with ⟨_, _, _, _, k9, _⟩
      exact (k9.out hoP).trans ho
    refine lv_i2l (v := r.toInt64) hx hb dL_pass_7 rfl ?_
    refine m_last (Rp := fun h8 => h8 = mu h1 o (.inl (cs.2.1, 1, .inr (.inl (vp_updL f (0 : Int32).toNatClampNeg r.toInt64))))) hx hb hK hV hS 1 (i := 0) ⟨ho1, rfl⟩ rfl (show vp_in (nI 0) 1 from vp_in_nI (by decide) (by decide)) dL_pass_8 (fun h8 H locs hV hS e8 => ?_)
    refine lv_goto (tgt := 18) hx hb dL_pass_9 (by decide) ?_
    refine lv_iconst (v := 0) hx hb dL_pass_18 (by decide) ?_
    exact m_iret (v := 0) hx hb hr hlocks hV hS (Or.inl ⟨rfl, r, h1, hp, ⟨_, by rw [e8]; exact mu_s _ _ _, rfl⟩, fun a ha => by rw [e8]; exact mu_n ha⟩) dL_pass_19
set_option maxHeartbeats 4000000 in
set_option maxRecDepth 100000 in
theorem c_L_usedShare {l : Launch} (hfl : l.stackTraces = false) {D : va_G} {cs : mC} {df : Nat} {P : Nat → Prop} {L : KL} {σ : KS} {hh : mH} (sz : Nat) (hC : CRep cs df P hh L σ hh) (o : Nat) (f : Nat → UInt64) (ho : hh o = some (.inl (cs.2.2.2.1, 1, .inr (.inr (.inr (.inl f)))))) (hoP : ¬ P o) (hnn : kI σ 5 0 ≠ 0 → vf_n32 (FP.fdiv (FP.i2f (kI σ 4 0)) (FP.i2f (kI σ 5 0)))) (hnf : ∀ v : UInt32, (hh = hh ∧ kI σ 5 0 ≠ 0 ∧ v = FP.fdiv (FP.i2f (kI σ 4 0)) (FP.i2f (kI σ 5 0))) → vf_n64 (FP.f2d v)) : Met l yL_usedShare (wsL_usedShare ++ lxW) ({ frames := 7, cells := 1, slots := 6, locals := 110 }) (lPre [.ref (L 0 0), .ref o] D cs df hh sz) (va_Qi (fun (r : Int32) (h1 : mH) => (r = 0 ∧ ∃ (v : UInt32) (h9 : mH), (h9 = hh ∧ kI σ 5 0 ≠ 0 ∧ v = FP.fdiv (FP.i2f (kI σ 4 0)) (FP.i2f (kI σ 5 0))) ∧ oD cs h1 o (FP.f2d v) ∧ ∀ a, a ≠ o → h1 a = h9 a) ∨ (r = 1 ∧ ("java/lang/ArithmeticException" = "java/lang/ArithmeticException" ∧ h1 = hh ∧ kI σ 5 0 = 0))) (mB D hh sz) (mA hh sz)) 1 6 (mA hh sz) := by
  refine va_MetW (cc := cL_usedShare) (maxL := 3) (ret := (some .int)) (hh := [(0, 8, 11, 105)]) (by decide) rfl ?_
  intro p e s m args below meth c s₁ B0 hml hv
  obtain ⟨hargs, ⟨hsz, hV, hE⟩, hN⟩ := hv
  subst hsz
  have hx := B0.exec
  have hb := B0.bytes
  have hr := B0.returns
  have hlocks := B0.notSynchronized
  have htsE := atoms_spec (ws := wsL_usedShare ++ lxW) B0.pre
  have hts : ∀ w ∈ wsL_usedShare, w.before args s = true := fun w h => htsE w (List.mem_append_left _ h)
  have hown : s.vm.findClass RL = some m.cls := findClass_of_methodNamed B0.named
  have hK := hE.1.1
  have hA : ∀ q : Nat, s.heap.size ≤ q → mA hh s.heap.size q := mA.top
  have hS : va_S (mA hh s.heap.size) s.heap s.heap [] := va_S.rf
  have htab : c.exceptionTable.toList = tableOf [(0, 8, 11, 105)] := vx_table (x := objectInit) B0 (hts (.codeWith yL_usedShare cL_usedShare 3 (some .int) [(0, 8, 11, 105)]) (by decide +kernel))
  have hl := lv_entry ([.ref (L 0 0), .ref o]) (n := 3) (by exact Nat.le_of_ble_eq_true rfl)
  have hent := lg_entry_eq m ([.ref (L 0 0), .ref o]) 3
  rw [← hargs] at hent
  rw [hent]
  generalize (lg_sl ([.ref (L 0 0), .ref o]) ++ List.replicate (3 - (lg_sl ([.ref (L 0 0), .ref o])).length) Slot.unset).toArray = ls at hl ⊢
  replace hl : lv_has ls 3 [(0, .ref (L 0 0)), (1, .ref o)] := hl
  refine lv_aload_n hx hb dL_usedShare_0 rfl (lv_at hl 1 rfl) ?_
  refine lv_iconst (v := 0) hx hb dL_usedShare_1 (by decide) ?_
  refine lv_aload_n hx hb dL_usedShare_2 rfl (lv_at hl 0 rfl) ?_
  refine m_xcallf (vx_runV (As := []) (rest := [.int 0, .ref o]) ⟨hx, hb, hml, hown, hts⟩ (c_X4_usedShare (l := l) hfl (s.heap.size) hC  hnn) (cwV 0 hts gL_usedShare_X4_usedShare rfl rfl rfl (by decide +kernel) ⟨by decide, by decide⟩) (m_preV (r := (RX4, TX4, 11)) hE hV hS hA (hC.at (k := 0) (i := 0) rfl) rfl) rfl rfl hl.1 rfl (lv_room (by exact Nat.le_of_ble_eq_true rfl)) dL_usedShare_3 ⟨by decide, by decide⟩) hV hS hA (fun E ce q9 h1 H locs hV hS hxp _ g7 g8 g9 => ?_) (fun r h1 H locs hV hS hp _ => ?_)
  · have hE9 : E = "java/lang/ArithmeticException" := hxp.1
    rcases hE9 with rfl
    refine vx_catch (name := "java/lang/ArithmeticException") hown [] ⟨0, 8, 11, 105⟩ [] htab (fun _ z => nomatch z) (by decide) (by decide) (htsE (.classLink RL 105 "java/lang/ArithmeticException") (List.mem_append_right _ (by decide +kernel))) (va_Nw.use rfl (hE.1.2.2.2.2.2.2.2.2 (.castable "java/lang/ArithmeticException" "java/lang/ArithmeticException") (by decide +kernel))) g7 g8 g9 ?_
    refine lv_astore_n (lv' := [(2, .ref q9), (0, .ref (L 0 0)), (1, .ref o)]) hx hb dL_usedShare_11 rfl hl (by decide) rfl (fun ls hl => ?_)
    refine lv_iconst (v := 1) hx hb dL_usedShare_12 (by decide) ?_
    exact m_iret (v := 1) hx hb hr hlocks hV hS (Or.inr (⟨rfl, hxp⟩)) dL_usedShare_13
  · have ho1 : h1 o = some (.inl (cs.2.2.2.1, 1, .inr (.inr (.inr (.inl f))))) := by
      rcases hp with ⟨e9, _⟩
      rw [e9]; exact ho
    refine lv_f2d hx hb dL_usedShare_6 (hnf r (by obtain ⟨e7, hp⟩ := hp; exact ⟨rfl, hp⟩)) ?_
    refine m_dast (Rp := fun h8 => h8 = mu h1 o (.inl (cs.2.2.2.1, 1, .inr (.inr (.inr (.inl (vf_upd f (0 : Int32).toNatClampNeg (FP.f2d r)))))))) hx hb hK hV hS 3 (i := 0) ⟨ho1, rfl⟩ rfl (show vp_in (nI 0) 1 from vp_in_nI (by decide) (by decide)) dL_usedShare_7 (fun h8 H locs hV hS e8 => ?_)
    refine lv_goto (tgt := 14) hx hb dL_usedShare_8 (by decide) ?_
    refine lv_iconst (v := 0) hx hb dL_usedShare_14 (by decide) ?_
    exact m_iret (v := 0) hx hb hr hlocks hV hS (Or.inl ⟨rfl, r, h1, hp, ⟨_, by rw [e8]; exact mu_s _ _ _, rfl⟩, fun a ha => by rw [e8]; exact mu_n ha⟩) dL_usedShare_15
set_option maxHeartbeats 4000000 in
set_option maxRecDepth 100000 in
theorem c_L_meanHeat {l : Launch} (hfl : l.stackTraces = false) {D : va_G} {cs : mC} {df : Nat} {P : Nat → Prop} {L : KL} {σ : KS} {hh : mH} (sz : Nat) (hC : CRep cs df P hh L σ hh) (o : Nat) (f : Nat → UInt64) (ho : hh o = some (.inl (cs.2.2.2.1, 1, .inr (.inr (.inr (.inl f)))))) (hoP : ¬ P o) (hnn : kN σ 62 0 ≠ 0 → vf_n64 (FP.ddiv (FP.i2d (sumI (fun t => kI σ 11 t) (kN σ 62 0))) (FP.i2d (nI (kN σ 62 0))))) : Met l yL_meanHeat (wsL_meanHeat ++ lxW) ({ frames := 7, cells := 1, slots := 6, locals := 113 }) (lPre [.ref (L 0 0), .ref o] D cs df hh sz) (va_Qi (fun (r : Int32) (h1 : mH) => (r = 0 ∧ ∃ (v : UInt64) (h9 : mH), (h9 = hh ∧ kN σ 62 0 ≠ 0 ∧ v = FP.ddiv (FP.i2d (sumI (fun t => kI σ 11 t) (kN σ 62 0))) (FP.i2d (nI (kN σ 62 0)))) ∧ oD cs h1 o v ∧ ∀ a, a ≠ o → h1 a = h9 a) ∨ (r = 1 ∧ ("java/lang/ArithmeticException" = "java/lang/ArithmeticException" ∧ h1 = hh ∧ kN σ 62 0 = 0))) (mB D hh sz) (mA hh sz)) 1 6 (mA hh sz) := by
  refine va_MetW (cc := cL_meanHeat) (maxL := 3) (ret := (some .int)) (hh := [(0, 7, 10, 105)]) (by decide) rfl ?_
  intro p e s m args below meth c s₁ B0 hml hv
  obtain ⟨hargs, ⟨hsz, hV, hE⟩, hN⟩ := hv
  subst hsz
  have hx := B0.exec
  have hb := B0.bytes
  have hr := B0.returns
  have hlocks := B0.notSynchronized
  have htsE := atoms_spec (ws := wsL_meanHeat ++ lxW) B0.pre
  have hts : ∀ w ∈ wsL_meanHeat, w.before args s = true := fun w h => htsE w (List.mem_append_left _ h)
  have hown : s.vm.findClass RL = some m.cls := findClass_of_methodNamed B0.named
  have hK := hE.1.1
  have hA : ∀ q : Nat, s.heap.size ≤ q → mA hh s.heap.size q := mA.top
  have hS : va_S (mA hh s.heap.size) s.heap s.heap [] := va_S.rf
  have htab : c.exceptionTable.toList = tableOf [(0, 7, 10, 105)] := vx_table (x := objectInit) B0 (hts (.codeWith yL_meanHeat cL_meanHeat 3 (some .int) [(0, 7, 10, 105)]) (by decide +kernel))
  have hl := lv_entry ([.ref (L 0 0), .ref o]) (n := 3) (by exact Nat.le_of_ble_eq_true rfl)
  have hent := lg_entry_eq m ([.ref (L 0 0), .ref o]) 3
  rw [← hargs] at hent
  rw [hent]
  generalize (lg_sl ([.ref (L 0 0), .ref o]) ++ List.replicate (3 - (lg_sl ([.ref (L 0 0), .ref o])).length) Slot.unset).toArray = ls at hl ⊢
  replace hl : lv_has ls 3 [(0, .ref (L 0 0)), (1, .ref o)] := hl
  refine lv_aload_n hx hb dL_meanHeat_0 rfl (lv_at hl 1 rfl) ?_
  refine lv_iconst (v := 0) hx hb dL_meanHeat_1 (by decide) ?_
  refine lv_aload_n hx hb dL_meanHeat_2 rfl (lv_at hl 0 rfl) ?_
  refine m_xcalld (vx_runV (As := []) (rest := [.int 0, .ref o]) ⟨hx, hb, hml, hown, hts⟩ (c_X4_meanHeat (l := l) hfl (s.heap.size) hC  hnn) (cwV 0 hts gL_meanHeat_X4_meanHeat rfl rfl rfl (by decide +kernel) ⟨by decide, by decide⟩) (m_preV (r := (RX4, TX4, 11)) hE hV hS hA (hC.at (k := 0) (i := 0) rfl) rfl) rfl rfl hl.1 rfl (lv_room (by exact Nat.le_of_ble_eq_true rfl)) dL_meanHeat_3 ⟨by decide, by decide⟩) hV hS hA (fun E ce q9 h1 H locs hV hS hxp _ g7 g8 g9 => ?_) (fun r h1 H locs hV hS hp _ => ?_)
  · have hE9 : E = "java/lang/ArithmeticException" := hxp.1
    rcases hE9 with rfl
    refine vx_catch (name := "java/lang/ArithmeticException") hown [] ⟨0, 7, 10, 105⟩ [] htab (fun _ z => nomatch z) (by decide) (by decide) (htsE (.classLink RL 105 "java/lang/ArithmeticException") (List.mem_append_right _ (by decide +kernel))) (va_Nw.use rfl (hE.1.2.2.2.2.2.2.2.2 (.castable "java/lang/ArithmeticException" "java/lang/ArithmeticException") (by decide +kernel))) g7 g8 g9 ?_
    refine lv_astore_n (lv' := [(2, .ref q9), (0, .ref (L 0 0)), (1, .ref o)]) hx hb dL_meanHeat_10 rfl hl (by decide) rfl (fun ls hl => ?_)
    refine lv_iconst (v := 1) hx hb dL_meanHeat_11 (by decide) ?_
    exact m_iret (v := 1) hx hb hr hlocks hV hS (Or.inr (⟨rfl, hxp⟩)) dL_meanHeat_12
  · have ho1 : h1 o = some (.inl (cs.2.2.2.1, 1, .inr (.inr (.inr (.inl f))))) := by
      rcases hp with ⟨e9, _⟩
      rw [e9]; exact ho
    refine m_dast (Rp := fun h8 => h8 = mu h1 o (.inl (cs.2.2.2.1, 1, .inr (.inr (.inr (.inl (vf_upd f (0 : Int32).toNatClampNeg r))))))) hx hb hK hV hS 3 (i := 0) ⟨ho1, rfl⟩ rfl (show vp_in (nI 0) 1 from vp_in_nI (by decide) (by decide)) dL_meanHeat_6 (fun h8 H locs hV hS e8 => ?_)
    refine lv_goto (tgt := 13) hx hb dL_meanHeat_7 (by decide) ?_
    refine lv_iconst (v := 0) hx hb dL_meanHeat_13 (by decide) ?_
    exact m_iret (v := 0) hx hb hr hlocks hV hS (Or.inl ⟨rfl, r, h1, hp, ⟨_, by rw [e8]; exact mu_s _ _ _, rfl⟩, fun a ha => by rw [e8]; exact mu_n ha⟩) dL_meanHeat_14
