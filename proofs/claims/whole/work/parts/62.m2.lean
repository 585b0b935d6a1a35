set_option maxHeartbeats 4000000 in
set_option maxRecDepth 100000 in
theorem c_X5_stateOf {l : Launch} {D : va_G} {cs : mC} {df : Nat} {P : Nat → Prop} {h0 : mH} {B : Nat → Nat} {μ : KS} {hh : mH} (sz : Nat) (hM : DRep cs P h0 B μ hh) (x0 : Int32) : Met l yX5_stateOf wsX5_stateOf ({ frames := 3, cells := 0, slots := 0, locals := 67 }) (mPre [.ref (B 100), .int x0] D cs df hh sz) (va_Qi ((fun (r : Int32) (h1 : mH) => ∃ μ1 : KS, DRep cs P h0 B μ1 h1 ∧ om_stateOf μ x0 r μ1)) (mB D hh sz) (mA hh sz)) 0 0 (mA hh sz) := by
  refine Met.ofW (cc := cX5_stateOf) (maxL := 2) (ret := (some .char)) (by decide) rfl ?_
  intro p e s m args below meth c s₁ B0 hml hv
  obtain ⟨hargs, hsz, hV, hE⟩ := hv
  subst hsz
  have hx := B0.exec
  have hb := B0.bytes
  have hr := B0.returns
  have hlocks := B0.notSynchronized
  have hts := atoms_spec (ws := wsX5_stateOf) B0.pre
  have hown : s.vm.findClass RX5 = some m.cls := findClass_of_methodNamed B0.named
  have hK := hE.1.1
  have hA : ∀ q : Nat, s.heap.size ≤ q → mA hh s.heap.size q := mA.top
  have hS : va_S (mA hh s.heap.size) s.heap s.heap [] := va_S.rf
  have hi_X5 : ∀ w ∈ u_ws RX5 TX5 34, w ∈ wsX5_stateOf := by decide +kernel
  have k69 : (Cond.fieldLink RX5 69 "TaskKernelModel" "isEnded" "[Z").before args s = true := hts _ (by decide +kernel)
  have k73 : (Cond.fieldLink RX5 73 "TaskKernelModel" "waitsFor" "[I").before args s = true := hts _ (by decide +kernel)
  have k45 : (Cond.fieldLink RX5 45 "TaskKernelModel" "lefts" "[I").before args s = true := hts _ (by decide +kernel)
  have hl := lv_entry ([.ref (B 100), .int x0]) (n := 2) (by first | exact Nat.le_of_ble_eq_true rfl | simp [lg_sl, rf_cat, ct_ref, ct_int, ct_null, ct_long])
  have hent := lg_entry_eq m ([.ref (B 100), .int x0]) 2
  rw [← hargs] at hent
  rw [hent]
  generalize (lg_sl ([.ref (B 100), .int x0]) ++ List.replicate (2 - (lg_sl ([.ref (B 100), .int x0])).length) Slot.unset).toArray = ls at hl ⊢
  replace hl : lv_has ls 2 [(0, .ref (B 100)), (1, .int x0)] := hl
  have hwf := hM.wf
  obtain ⟨⟨y0, y1, y2, y3⟩, y4, y5, y6, y7⟩ := hwf
  refine lv_aload_n hx hb dX5_stateOf_0 rfl (lv_at hl 0 rfl) ?_
  refine lv_iload_n hx hb dX5_stateOf_1 rfl (lv_at hl 1 rfl) ?_
  refine m_calli (va_runV (As := [.int x0]) (rest := []) ⟨hx, hb, hml, hown, hts⟩ (c_X5_asks (l := l) (s.heap.size) hM x0) (cwV 1 hts gX5_stateOf_X5_asks rfl rfl rfl (by decide +kernel) ⟨by decide, by decide⟩) (m_preV (r := (RX5, TX5, 34)) hE hV hS hA (hM.at 100 (by decide)) rfl) rfl rfl hl.1 rfl (lv_room (by first | exact Nat.le_of_ble_eq_true rfl | simp [rf_cat, ct_ref, ct_int, ct_null, ct_long])) dX5_stateOf_2 ⟨by decide, by decide⟩) hV hS hA (fun r h H locs hV hS hp _ => ?_)
  obtain ⟨hM, e2⟩ := hp
  subst e2
  refine lv_if_ne (tgt := 13) hx hb dX5_stateOf_5 (by decide) (fun c5 => ?_) (fun c5 => ?_)
  · replace c5 : ((inR x0 (kN μ 24 0)).isSome) = true := bI_1.mp c5
    rw [if_pos c5] at hM
    obtain ⟨t, ht⟩ := Option.isSome_iff_exists.mp c5
    obtain ⟨rfl, bt⟩ := inR_some ht
    refine lv_aload_n hx hb dX5_stateOf_13 rfl (lv_at hl 0 rfl) ?_
    refine m_get (C := RX5) (T := TX5) (N := 34) hx hb hts hi_X5 hown hK hV 21 (v := .ref (B 21)) (g_m21 hM) rfl (by decide) k69 (fun _ h9 => h9) dX5_stateOf_14 ?_
    refine lv_iload_n hx hb dX5_stateOf_17 rfl (lv_at hl 1 rfl) ?_
    refine m_zald hx hb hK hV 2 (i := nI t) (x := bI (kB (thS μ 0) 21 t)) (a_m21 hM) rfl (vp_in_nI (by omega) (by omega)) (by rw [nI_clamp (by omega)] <;> first | rfl | (show oI (va_up _ _ _ _) = _; rw [vu_s]) | (show va_up _ _ _ _ = _; rw [vu_s])) dX5_stateOf_18 ?_
    refine lv_if_eq (tgt := 27) hx hb dX5_stateOf_19 (by decide) (fun c19 => ?_) (fun c19 => ?_)
    · replace c19 : kB (thS μ 0) 21 t = false := bI_0.mp c19
      refine lv_aload_n hx hb dX5_stateOf_27 rfl (lv_at hl 0 rfl) ?_
      refine m_get (C := RX5) (T := TX5) (N := 34) hx hb hts hi_X5 hown hK hV 22 (v := .ref (B 22)) (g_m22 hM) rfl (by decide) k73 (fun _ h9 => h9) dX5_stateOf_28 ?_
      refine lv_iload_n hx hb dX5_stateOf_31 rfl (lv_at hl 1 rfl) ?_
      refine m_iald hx hb hK hV 0 (i := nI t) (x := oI (kO (thS μ 0) 22 t)) (a_m22 hM) rfl (vp_in_nI (by omega) (by omega)) (by rw [nI_clamp (by omega)] <;> first | rfl | (show oI (va_up _ _ _ _) = _; rw [vu_s]) | (show va_up _ _ _ _ = _; rw [vu_s])) dX5_stateOf_32 ?_
      refine lv_iconst (v := (-1)) hx hb dX5_stateOf_33 (by decide) ?_
      refine lv_icmp_eq (tgt := 42) hx hb dX5_stateOf_34 (by decide) (fun c34 => ?_) (fun c34 => ?_)
      · replace c34 : kO (thS μ 0) 22 t = none := (oI_m1 (fun k9 e9 => by have : k9 < 4 := hM.wf.2.2.2.1 t (by first | assumption | (show t < kN (thS μ 0) 24 0; omega)) _ e9; omega)).mp c34
        refine lv_aload_n hx hb dX5_stateOf_42 rfl (lv_at hl 0 rfl) ?_
        refine m_get (C := RX5) (T := TX5) (N := 34) hx hb hts hi_X5 hown hK hV 13 (v := .ref (B 13)) (g_m13 hM) rfl (by decide) k45 (fun _ h9 => h9) dX5_stateOf_43 ?_
        refine lv_iload_n hx hb dX5_stateOf_46 rfl (lv_at hl 1 rfl) ?_
        refine m_iald hx hb hK hV 0 (i := nI t) (x := (kI (thS μ 0) 13 t)) (a_m13 hM) rfl (vp_in_nI (by omega) (by omega)) (by rw [nI_clamp (by omega)] <;> first | rfl | (show oI (va_up _ _ _ _) = _; rw [vu_s]) | (show va_up _ _ _ _ = _; rw [vu_s])) dX5_stateOf_47 ?_
        refine lv_if_le (tgt := 56) hx hb dX5_stateOf_48 (by decide) (fun c48 => ?_) (fun c48 => ?_)
        · refine lv_bipush (v := 105) hx hb dX5_stateOf_56 (by decide) ?_
          exact m_zret (v := 105) hx hb hr hlocks (by decide) hV hS (⟨_, hM, Or.inl ⟨t, ht, rfl, by unfold stM; rw [if_neg (by rw [show kB μ 21 t = false from c19]; decide), if_pos (show kO μ 22 t = none from c34), if_neg (show ¬ 0 < kI μ 13 t from Int32.not_lt.mpr c48)]⟩⟩) dX5_stateOf_58
        · refine lv_bipush (v := 114) hx hb dX5_stateOf_51 (by decide) ?_
          refine lv_goto (tgt := 58) hx hb dX5_stateOf_53 (by decide) ?_
          exact m_zret (v := 114) hx hb hr hlocks (by decide) hV hS (⟨_, hM, Or.inl ⟨t, ht, rfl, by unfold stM; rw [if_neg (by rw [show kB μ 21 t = false from c19]; decide), if_pos (show kO μ 22 t = none from c34), if_pos (show 0 < kI μ 13 t from Int32.not_le.mp c48)]⟩⟩) dX5_stateOf_58
      · obtain ⟨k34, c34⟩ : ∃ z, kO (thS μ 0) 22 t = some z := Option.ne_none_iff_exists'.mp (fun q9 => c34 ((oI_m1 (fun k9 e9 => by have : k9 < 4 := hM.wf.2.2.2.1 t (by first | assumption | (show t < kN (thS μ 0) 24 0; omega)) _ e9; omega)).mpr q9))
        have bk34 : k34 < 4 := hM.wf.2.2.2.1 t (by first | assumption | (show t < kN (thS μ 0) 24 0; omega)) _ c34
        refine lv_bipush (v := 119) hx hb dX5_stateOf_37 (by decide) ?_
        refine lv_goto (tgt := 58) hx hb dX5_stateOf_39 (by decide) ?_
        exact m_zret (v := 119) hx hb hr hlocks (by decide) hV hS (⟨_, hM, Or.inl ⟨t, ht, rfl, by unfold stM; rw [if_neg (by rw [show kB μ 21 t = false from c19]; decide), if_neg (show ¬ kO μ 22 t = none from fun z => nomatch (show kO μ 22 t = some _ from c34).symm.trans z)]⟩⟩) dX5_stateOf_58
    · replace c19 : kB (thS μ 0) 21 t = true := bI_1.mp c19
      refine lv_bipush (v := 101) hx hb dX5_stateOf_22 (by decide) ?_
      refine lv_goto (tgt := 58) hx hb dX5_stateOf_24 (by decide) ?_
      exact m_zret (v := 101) hx hb hr hlocks (by decide) hV hS (⟨_, hM, Or.inl ⟨t, ht, rfl, by unfold stM; rw [if_pos (show kB μ 21 t = true from c19)]⟩⟩) dX5_stateOf_58
  · replace c5 : ((inR x0 (kN μ 24 0)).isSome) = false := bI_0.mp c5
    rw [if_neg (by rw [c5]; decide)] at hM
    refine lv_bipush (v := 32) hx hb dX5_stateOf_8 (by decide) ?_
    refine lv_goto (tgt := 58) hx hb dX5_stateOf_10 (by decide) ?_
    exact m_zret (v := 32) hx hb hr hlocks (by decide) hV hS (⟨_, hM, Or.inr ⟨Option.not_isSome_iff_eq_none.mp (by rw [c5]; decide), rfl⟩⟩) dX5_stateOf_58
set_option maxHeartbeats 4000000 in
set_option maxRecDepth 100000 in
theorem c_X5_timeOfGroup {l : Launch} {D : va_G} {cs : mC} {df : Nat} {P : Nat → Prop} {h0 : mH} {B : Nat → Nat} {μ : KS} {hh : mH} (sz : Nat) (hM : DRep cs P h0 B μ hh) (x0 : Int32) : Met l yX5_timeOfGroup wsX5_timeOfGroup ({ frames := 1, cells := 0, slots := 0, locals := 25 }) (mPre [.ref (B 100), .int x0] D cs df hh sz) (va_Ql ((fun (r : Int64) (h1 : mH) => ∃ μ1 : KS, DRep cs P h0 B μ1 h1 ∧ om_timeOfGroup μ x0 r μ1)) (mB D hh sz) (mA hh sz)) 0 0 (mA hh sz) := by
  refine Met.ofW (cc := cX5_timeOfGroup) (maxL := 2) (ret := (some .long)) (by decide) rfl ?_
  intro p e s m args below meth c s₁ B0 hml hv
  obtain ⟨hargs, hsz, hV, hE⟩ := hv
  subst hsz
  have hx := B0.exec
  have hb := B0.bytes
  have hr := B0.returns
  have hlocks := B0.notSynchronized
  have hts := atoms_spec (ws := wsX5_timeOfGroup) B0.pre
  have hown : s.vm.findClass RX5 = some m.cls := findClass_of_methodNamed B0.named
  have hK := hE.1.1
  have hA : ∀ q : Nat, s.heap.size ≤ q → mA hh s.heap.size q := mA.top
  have hS : va_S (mA hh s.heap.size) s.heap s.heap [] := va_S.rf
  have hi_X5 : ∀ w ∈ u_ws RX5 TX5 34, w ∈ wsX5_timeOfGroup := by decide +kernel
  have k33 : (Cond.fieldLink RX5 33 "TaskKernelModel" "groups" "I").before args s = true := hts _ (by decide +kernel)
  have k91 : (Cond.fieldLink RX5 91 "TaskKernelModel" "thrown" "I").before args s = true := hts _ (by decide +kernel)
  have kk115 : (Cond.constantLong RX5 115 (-1)).before args s = true := hts _ (by decide +kernel)
  have k29 : (Cond.fieldLink RX5 29 "TaskKernelModel" "groupTimes" "[J").before args s = true := hts _ (by decide +kernel)
  have hl := lv_entry ([.ref (B 100), .int x0]) (n := 2) (by first | exact Nat.le_of_ble_eq_true rfl | simp [lg_sl, rf_cat, ct_ref, ct_int, ct_null, ct_long])
  have hent := lg_entry_eq m ([.ref (B 100), .int x0]) 2
  rw [← hargs] at hent
  rw [hent]
  generalize (lg_sl ([.ref (B 100), .int x0]) ++ List.replicate (2 - (lg_sl ([.ref (B 100), .int x0])).length) Slot.unset).toArray = ls at hl ⊢
  replace hl : lv_has ls 2 [(0, .ref (B 100)), (1, .int x0)] := hl
  have hwf := hM.wf
  obtain ⟨⟨y0, y1, y2, y3⟩, y4, y5, y6, y7⟩ := hwf
  refine lv_aload_n hx hb dX5_timeOfGroup_0 rfl (lv_at hl 0 rfl) ?_
  refine lv_iload_n hx hb dX5_timeOfGroup_1 rfl (lv_at hl 1 rfl) ?_
  refine lv_i2l (v := (x0).toInt64) hx hb dX5_timeOfGroup_2 rfl ?_
  refine lv_lconst (v := 1) hx hb dX5_timeOfGroup_3 (by decide) ?_
  refine lv_aload_n hx hb dX5_timeOfGroup_4 rfl (lv_at hl 0 rfl) ?_
  refine m_get (C := RX5) (T := TX5) (N := 34) hx hb hts hi_X5 hown hK hV 9 (v := .int (nI (kN μ 9 0))) (by have z9 := g_m9 hM; exact z9) rfl (by decide) k33 (fun _ h9 => h9) dX5_timeOfGroup_5 ?_
  refine lv_iconst (v := 1) hx hb dX5_timeOfGroup_8 (by decide) ?_
  refine lv_isub hx hb dX5_timeOfGroup_9 ?_
  refine lv_i2l (v := ((nI (kN μ 9 0) - 1)).toInt64) hx hb dX5_timeOfGroup_10 rfl ?_
  refine m_calli (va_runS (As := [.long ((x0).toInt64), .long 1, .long (((nI (kN μ 9 0) - 1)).toInt64)]) (rest := [.ref (B 100)]) ⟨hx, hb, hml, hown, hts⟩ (c_X5_in (l := l) (D := D) (cs := cs) (df := df) (hh := hh) (s.heap.size) ((x0).toInt64) 1 (((nI (kN μ 9 0) - 1)).toInt64)) (va_cwS 3 hts gX5_timeOfGroup_X5_in rfl rfl rfl (by decide +kernel) ⟨by decide, by decide⟩) (m_preS hE hV hS hA) rfl rfl hl.1 rfl (lv_room (by first | exact Nat.le_of_ble_eq_true rfl | simp [rf_cat, ct_ref, ct_int, ct_null, ct_long])) dX5_timeOfGroup_11 ⟨by decide, by decide⟩) hV hS hA (fun r h1 H locs hV hS hp _ => ?_)
  obtain ⟨e1, e2⟩ := hp
  subst e2
  rw [e1] at hV; clear e1
  refine m_topi (y := bI ((inR x0 (kN μ 9 0)).isSome && decide (inR x0 (kN μ 9 0) ≠ some 0))) (congrArg bI (inL_G (by omega) rfl)) ?_
  refine lv_if_eq (tgt := 21) hx hb dX5_timeOfGroup_14 (by decide) (fun c14 => ?_) (fun c14 => ?_)
  · replace c14 : ((inR x0 (kN μ 9 0)).isSome && decide (inR x0 (kN μ 9 0) ≠ some 0)) = false := bI_0.mp c14
    refine lv_iconst (v := 1) hx hb dX5_timeOfGroup_21 (by decide) ?_
    refine m_put (C := RX5) (T := TX5) (N := 34) (v := .int 1) hx hb hts hi_X5 tyX5 tyX5_ok nmX5 hown hK hV hS 33 (p_m33 hM 1) rfl (by decide) k91 (fun _ h9 => h9) rfl (tyX5_ok 33 (by decide)) rfl rfl dX5_timeOfGroup_22 (fun h H locs hV hS hM => ?_)
    refine lv_aload_n hx hb dX5_timeOfGroup_25 rfl (lv_at hl 0 rfl) ?_
    refine m_get (C := RX5) (T := TX5) (N := 34) hx hb hts hi_X5 hown hK hV 33 (v := .int 1) (by have z9 := g_m33 hM; exact z9) rfl (by decide) k91 (fun _ h9 => h9) dX5_timeOfGroup_26 ?_
    refine lv_if_ne (tgt := 41) hx hb dX5_timeOfGroup_29 (by decide) (fun c29 => ?_) (fun c29 => (absurd c29 (by decide)))
    refine lv_ldc2 (v := (-1)) hx hb hown kk115 dX5_timeOfGroup_41 ?_
    exact m_lret (v := (-1)) hx hb hr hlocks hV hS (⟨_, hM, Or.inr ⟨(by
                  cases e9 : inR x0 (kN μ 9 0) with
                  | none => exact Or.inl rfl
                  | some k => rw [e9] at c14; exact Or.inr (congrArg some (by simpa using c14))), rfl⟩⟩) dX5_timeOfGroup_44
  · replace c14 : ((inR x0 (kN μ 9 0)).isSome && decide (inR x0 (kN μ 9 0) ≠ some 0)) = true := bI_1.mp c14
    refine lv_iconst (v := 0) hx hb dX5_timeOfGroup_17 (by decide) ?_
    refine lv_goto (tgt := 22) hx hb dX5_timeOfGroup_18 (by decide) ?_
    refine m_put (C := RX5) (T := TX5) (N := 34) (v := .int 0) hx hb hts hi_X5 tyX5 tyX5_ok nmX5 hown hK hV hS 33 (p_m33 hM 0) rfl (by decide) k91 (fun _ h9 => h9) rfl (tyX5_ok 33 (by decide)) rfl rfl dX5_timeOfGroup_22 (fun h H locs hV hS hM => ?_)
    refine lv_aload_n hx hb dX5_timeOfGroup_25 rfl (lv_at hl 0 rfl) ?_
    refine m_get (C := RX5) (T := TX5) (N := 34) hx hb hts hi_X5 hown hK hV 33 (v := .int 0) (by have z9 := g_m33 hM; exact z9) rfl (by decide) k91 (fun _ h9 => h9) dX5_timeOfGroup_26 ?_
    refine lv_if_ne (tgt := 41) hx hb dX5_timeOfGroup_29 (by decide) (fun c29 => (absurd (by decide) c29)) (fun c29 => ?_)
    have c15 := Bool.and_eq_true_iff.mp c14
    obtain ⟨t, ht⟩ := Option.isSome_iff_exists.mp c15.1
    have t0 : t ≠ 0 := fun z => of_decide_eq_true c15.2 (by rw [ht, z])
    clear c15 c14
    obtain ⟨rfl, bt⟩ := inR_some ht
    refine lv_aload_n hx hb dX5_timeOfGroup_32 rfl (lv_at hl 0 rfl) ?_
    refine m_get (C := RX5) (T := TX5) (N := 34) hx hb hts hi_X5 hown hK hV 8 (v := .ref (B 8)) (g_m8 hM) rfl (by decide) k29 (fun _ h9 => h9) dX5_timeOfGroup_33 ?_
    refine lv_iload_n hx hb dX5_timeOfGroup_36 rfl (lv_at hl 1 rfl) ?_
    refine m_lald hx hb hK hV 1 (i := nI t) (x := (kW μ 8 t)) (a_m8 hM) rfl (vp_in_nI (by omega) (by omega)) (by rw [nI_clamp (by omega)] <;> first | rfl | (show oI (va_up _ _ _ _) = _; rw [vu_s]) | (show va_up _ _ _ _ = _; rw [vu_s])) dX5_timeOfGroup_37 ?_
    refine lv_goto (tgt := 44) hx hb dX5_timeOfGroup_38 (by decide) ?_
    exact m_lret (v := (kW μ 8 t)) hx hb hr hlocks hV hS (⟨_, hM, Or.inl ⟨t, ht, t0, rfl, rfl⟩⟩) dX5_timeOfGroup_44
set_option maxHeartbeats 4000000 in
set_option maxRecDepth 100000 in
theorem c_X5_addGroup {l : Launch} {D : va_G} {cs : mC} {df : Nat} {P : Nat → Prop} {h0 : mH} {B : Nat → Nat} {μ : KS} {hh : mH} (sz : Nat) (hM : DRep cs P h0 B μ hh) (x0 : Int32) (x1 : Int32) : Met l yX5_addGroup wsX5_addGroup ({ frames := 2, cells := 0, slots := 0, locals := 46 }) (mPre [.ref (B 100), .int x0, .int x1] D cs df hh sz) (va_Qi ((fun (r : Int32) (h1 : mH) => ∃ μ1 : KS, DRep cs P h0 B μ1 h1 ∧ om_addGroup μ x0 x1 r μ1)) (mB D hh sz) (mA hh sz)) 0 0 (mA hh sz) := by
  refine Met.ofW (cc := cX5_addGroup) (maxL := 3) (ret := (some .int)) (by decide) rfl ?_
  intro p e s m args below meth c s₁ B0 hml hv
  obtain ⟨hargs, hsz, hV, hE⟩ := hv
  subst hsz
  have hx := B0.exec
  have hb := B0.bytes
  have hr := B0.returns
  have hlocks := B0.notSynchronized
  have hts := atoms_spec (ws := wsX5_addGroup) B0.pre
  have hown : s.vm.findClass RX5 = some m.cls := findClass_of_methodNamed B0.named
  have hK := hE.1.1
  have hA : ∀ q : Nat, s.heap.size ≤ q → mA hh s.heap.size q := mA.top
  have hS : va_S (mA hh s.heap.size) s.heap s.heap [] := va_S.rf
  have kk123 : (Cond.constantLong RX5 123 (9)).before args s = true := hts _ (by decide +kernel)
  have hi_X5 : ∀ w ∈ u_ws RX5 TX5 34, w ∈ wsX5_addGroup := by decide +kernel
  have k33 : (Cond.fieldLink RX5 33 "TaskKernelModel" "groups" "I").before args s = true := hts _ (by decide +kernel)
  have k91 : (Cond.fieldLink RX5 91 "TaskKernelModel" "thrown" "I").before args s = true := hts _ (by decide +kernel)
  have k29 : (Cond.fieldLink RX5 29 "TaskKernelModel" "groupTimes" "[J").before args s = true := hts _ (by decide +kernel)
  have k23 : (Cond.fieldLink RX5 23 "TaskKernelModel" "parents" "[I").before args s = true := hts _ (by decide +kernel)
  have k26 : (Cond.fieldLink RX5 26 "TaskKernelModel" "groupWeights" "[I").before args s = true := hts _ (by decide +kernel)
  have hl := lv_entry ([.ref (B 100), .int x0, .int x1]) (n := 3) (by first | exact Nat.le_of_ble_eq_true rfl | simp [lg_sl, rf_cat, ct_ref, ct_int, ct_null, ct_long])
  have hent := lg_entry_eq m ([.ref (B 100), .int x0, .int x1]) 3
  rw [← hargs] at hent
  rw [hent]
  generalize (lg_sl ([.ref (B 100), .int x0, .int x1]) ++ List.replicate (3 - (lg_sl ([.ref (B 100), .int x0, .int x1])).length) Slot.unset).toArray = ls at hl ⊢
  replace hl : lv_has ls 3 [(0, .ref (B 100)), (1, .int x0), (2, .int x1)] := hl
  have hwf := hM.wf
  obtain ⟨⟨y0, y1, y2, y3⟩, y4, y5, y6, y7⟩ := hwf
  refine lv_aload_n hx hb dX5_addGroup_0 rfl (lv_at hl 0 rfl) ?_
  refine lv_aload_n hx hb dX5_addGroup_1 rfl (lv_at hl 0 rfl) ?_
  refine lv_iload_n hx hb dX5_addGroup_2 rfl (lv_at hl 1 rfl) ?_
  refine m_calli (va_runV (As := [.int x0]) (rest := [.ref (B 100)]) ⟨hx, hb, hml, hown, hts⟩ (c_X5_isGroup (l := l) (s.heap.size) hM x0) (cwV 1 hts gX5_addGroup_X5_isGroup rfl rfl rfl (by decide +kernel) ⟨by decide, by decide⟩) (m_preV (r := (RX5, TX5, 34)) hE hV hS hA (hM.at 100 (by decide)) rfl) rfl rfl hl.1 rfl (lv_room (by first | exact Nat.le_of_ble_eq_true rfl | simp [rf_cat, ct_ref, ct_int, ct_null, ct_long])) dX5_addGroup_3 ⟨by decide, by decide⟩) hV hS hA (fun r h1 H locs hV hS hp _ => ?_)
  obtain ⟨e1, e2⟩ := hp
  subst e2
  rw [e1] at hV; clear e1
  refine lv_if_ne (tgt := 13) hx hb dX5_addGroup_6 (by decide) (fun c6 => ?_) (fun c6 => ?_)
  · replace c6 : ((inR x0 (kN μ 9 0)).isSome) = true := bI_1.mp c6
    refine lv_iload_n hx hb dX5_addGroup_13 rfl (lv_at hl 2 rfl) ?_
    refine lv_i2l (v := (x1).toInt64) hx hb dX5_addGroup_14 rfl ?_
    refine lv_lconst (v := 1) hx hb dX5_addGroup_15 (by decide) ?_
    refine lv_ldc2 (v := 9) hx hb hown kk123 dX5_addGroup_16 ?_
    refine m_calli (va_runS (As := [.long ((x1).toInt64), .long 1, .long 9]) (rest := [.ref (B 100)]) ⟨hx, hb, hml, hown, hts⟩ (c_X5_in (l := l) (D := D) (cs := cs) (df := df) (hh := hh) (H.size) ((x1).toInt64) 1 9) (va_cwS 3 hts gX5_addGroup_X5_in rfl rfl rfl (by decide +kernel) ⟨by decide, by decide⟩) (m_preS hE hV hS hA) rfl rfl hl.1 rfl (lv_room (by first | exact Nat.le_of_ble_eq_true rfl | simp [rf_cat, ct_ref, ct_int, ct_null, ct_long])) dX5_addGroup_19 ⟨by decide, by decide⟩) hV hS hA (fun r h1 H locs hV hS hp _ => ?_)
    obtain ⟨e1, e2⟩ := hp
    subst e2
    rw [e1] at hV; clear e1
    refine m_topi (y := bI (rg x1 1 9)) (congrArg bI (inL_rg (by decide) (by decide))) ?_
    refine lv_if_ne (tgt := 29) hx hb dX5_addGroup_22 (by decide) (fun c22 => ?_) (fun c22 => ?_)
    · replace c22 : (rg x1 1 9) = true := bI_1.mp c22
      refine lv_aload_n hx hb dX5_addGroup_29 rfl (lv_at hl 0 rfl) ?_
      refine m_get (C := RX5) (T := TX5) (N := 34) hx hb hts hi_X5 hown hK hV 9 (v := .int (nI (kN μ 9 0))) (by have z9 := g_m9 hM; exact z9) rfl (by decide) k33 (fun _ h9 => h9) dX5_addGroup_30 ?_
      refine lv_bipush (v := 6) hx hb dX5_addGroup_33 (by decide) ?_
      refine lv_icmp_ne (tgt := 42) hx hb dX5_addGroup_35 (by decide) (fun c35 => ?_) (fun c35 => ?_)
      · replace c35 : ¬ kN μ 9 0 = 6 := fun q9 => c35 ((nI_eq (a := kN μ 9 0) (b := 6) (by omega) (by omega)).mpr q9)
        refine lv_iconst (v := 0) hx hb dX5_addGroup_42 (by decide) ?_
        refine m_put (C := RX5) (T := TX5) (N := 34) (v := .int 0) hx hb hts hi_X5 tyX5 tyX5_ok nmX5 hown hK hV hS 33 (p_m33 hM 0) rfl (by decide) k91 (fun _ h9 => h9) rfl (tyX5_ok 33 (by decide)) rfl rfl dX5_addGroup_43 (fun h H locs hV hS hM => ?_)
        refine lv_aload_n hx hb dX5_addGroup_46 rfl (lv_at hl 0 rfl) ?_
        refine m_get (C := RX5) (T := TX5) (N := 34) hx hb hts hi_X5 hown hK hV 33 (v := .int 0) (by have z9 := g_m33 hM; exact z9) rfl (by decide) k91 (fun _ h9 => h9) dX5_addGroup_47 ?_
        refine lv_if_le (tgt := 55) hx hb dX5_addGroup_50 (by decide) (fun c50 => ?_) (fun c50 => (absurd (by decide) c50))
        obtain ⟨t, ht⟩ := Option.isSome_iff_exists.mp c6
        obtain ⟨rfl, bt⟩ := inR_some ht
        refine lv_aload_n hx hb dX5_addGroup_55 rfl (lv_at hl 0 rfl) ?_
        refine m_get (C := RX5) (T := TX5) (N := 34) hx hb hts hi_X5 hown hK hV 8 (v := .ref (B 8)) (g_m8 hM) rfl (by decide) k29 (fun _ h9 => h9) dX5_addGroup_56 ?_
        refine lv_aload_n hx hb dX5_addGroup_59 rfl (lv_at hl 0 rfl) ?_
        refine m_get (C := RX5) (T := TX5) (N := 34) hx hb hts hi_X5 hown hK hV 9 (v := .int (nI (kN μ 9 0))) (by have z9 := g_m9 hM; exact z9) rfl (by decide) k33 (fun _ h9 => h9) dX5_addGroup_60 ?_
        refine lv_aload_n hx hb dX5_addGroup_63 rfl (lv_at hl 0 rfl) ?_
        refine lv_iload_n hx hb dX5_addGroup_64 rfl (lv_at hl 1 rfl) ?_
        refine m_calll (va_runV (As := [.int (nI t)]) (rest := [.int (nI (kN μ 9 0)), .ref (B 8)]) ⟨hx, hb, hml, hown, hts⟩ (c_X5_leastIn (l := l) (H.size) hM t bt) (cwV 1 hts gX5_addGroup_X5_leastIn rfl rfl rfl (by decide +kernel) ⟨by decide, by decide⟩) (m_preV (r := (RX5, TX5, 34)) hE hV hS hA (hM.at 100 (by decide)) rfl) rfl rfl hl.1 rfl (lv_room (by first | exact Nat.le_of_ble_eq_true rfl | simp [rf_cat, ct_ref, ct_int, ct_null, ct_long])) dX5_addGroup_65 ⟨by decide, by decide⟩) hV hS hA (fun r h1 H locs hV hS hp _ => ?_)
        obtain ⟨e1, e2⟩ := hp
        subst e2
        rw [e1] at hV; clear e1
        refine m_topl (y := (lsM μ t)) (lsM_th μ 0 t) ?_
        refine m_last hx hb hK hV hS 1 (i := nI (kN μ 9 0)) (x := (lsM μ t)) (q_m8 hM (by omega) (lsM μ t)) rfl (vp_in_nI (by omega) (by omega)) dX5_addGroup_68 (fun h H locs hV hS hM => ?_)
        refine lv_aload_n hx hb dX5_addGroup_69 rfl (lv_at hl 0 rfl) ?_
        refine m_get (C := RX5) (T := TX5) (N := 34) hx hb hts hi_X5 hown hK hV 6 (v := .ref (B 6)) (g_m6 hM) rfl (by decide) k23 (fun _ h9 => h9) dX5_addGroup_70 ?_
        refine lv_aload_n hx hb dX5_addGroup_73 rfl (lv_at hl 0 rfl) ?_
        refine m_get (C := RX5) (T := TX5) (N := 34) hx hb hts hi_X5 hown hK hV 9 (v := .int (nI (kN μ 9 0))) (by have z9 := g_m9 hM; exact z9) rfl (by decide) k33 (fun _ h9 => h9) dX5_addGroup_74 ?_
        refine lv_iload_n hx hb dX5_addGroup_77 rfl (lv_at hl 1 rfl) ?_
        refine m_iast hx hb hK hV hS 0 (i := nI (kN μ 9 0)) (x := nI t) (q_m6 hM (by omega) t (dWF_6 hM.wf (Nat.le_refl _))) rfl (vp_in_nI (by omega) (by omega)) dX5_addGroup_78 (fun h H locs hV hS hM => ?_)
        refine lv_aload_n hx hb dX5_addGroup_79 rfl (lv_at hl 0 rfl) ?_
        refine m_get (C := RX5) (T := TX5) (N := 34) hx hb hts hi_X5 hown hK hV 7 (v := .ref (B 7)) (g_m7 hM) rfl (by decide) k26 (fun _ h9 => h9) dX5_addGroup_80 ?_
        refine lv_aload_n hx hb dX5_addGroup_83 rfl (lv_at hl 0 rfl) ?_
        refine m_get (C := RX5) (T := TX5) (N := 34) hx hb hts hi_X5 hown hK hV 9 (v := .int (nI (kN μ 9 0))) (by have z9 := g_m9 hM; exact z9) rfl (by decide) k33 (fun _ h9 => h9) dX5_addGroup_84 ?_
        refine lv_iload_n hx hb dX5_addGroup_87 rfl (lv_at hl 2 rfl) ?_
        refine m_iast hx hb hK hV hS 0 (i := nI (kN μ 9 0)) (x := x1) (q_m7 hM (by omega) x1) rfl (vp_in_nI (by omega) (by omega)) dX5_addGroup_88 (fun h H locs hV hS hM => ?_)
        refine lv_aload_n hx hb dX5_addGroup_89 rfl (lv_at hl 0 rfl) ?_
        refine lv_dup hx hb dX5_addGroup_90 rfl ?_
        refine m_get (C := RX5) (T := TX5) (N := 34) hx hb hts hi_X5 hown hK hV 9 (v := .int (nI (kN μ 9 0))) (by have z9 := g_m9 hM; exact z9) rfl (by decide) k33 (fun _ h9 => h9) dX5_addGroup_91 ?_
        refine lv_iconst (v := 1) hx hb dX5_addGroup_94 (by decide) ?_
        refine lv_iadd hx hb dX5_addGroup_95 ?_
        refine m_topi (y := nI (kN μ 9 0 + 1)) (nI_add (kN μ 9 0) 1) ?_
        refine m_put (C := RX5) (T := TX5) (N := 34) (v := .int (nI (kN μ 9 0 + 1))) hx hb hts hi_X5 tyX5 tyX5_ok nmX5 hown hK hV hS 9 (p_m9 hM (kN μ 9 0 + 1) (dWF_9 hM.wf (show kN μ 9 0 < 6 by omega) (by show va_up (kN μ 6) (kN μ 9 0) t (kN μ 9 0) < kN μ 9 0; rw [vu_s]; exact bt))) rfl (by decide) k33 (fun _ h9 => h9) rfl (tyX5_ok 9 (by decide)) rfl rfl dX5_addGroup_96 (fun h H locs hV hS hM => ?_)
        refine lv_aload_n hx hb dX5_addGroup_99 rfl (lv_at hl 0 rfl) ?_
        refine m_get (C := RX5) (T := TX5) (N := 34) hx hb hts hi_X5 hown hK hV 9 (v := .int (nI (kN μ 9 0 + 1))) (by have z9 := g_m9 hM; exact z9) rfl (by decide) k33 (fun _ h9 => h9) dX5_addGroup_100 ?_
        refine lv_iconst (v := 1) hx hb dX5_addGroup_103 (by decide) ?_
        refine lv_isub hx hb dX5_addGroup_104 ?_
        refine m_topi (y := nI ((kN μ 9 0 + 1) - 1)) (pk_sub (a := (kN μ 9 0 + 1)) (b := 1) (by omega)) ?_
        exact m_iret (v := nI ((kN μ 9 0 + 1) - 1)) hx hb hr hlocks hV hS (⟨_, hM, Or.inr (Or.inr (Or.inr ⟨t, ht, c22, c35, rfl, by rw [Nat.add_sub_cancel]⟩))⟩) dX5_addGroup_105
      · replace c35 : kN μ 9 0 = 6 := (nI_eq (a := kN μ 9 0) (b := 6) (by omega) (by omega)).mp c35
        refine lv_iconst (v := 3) hx hb dX5_addGroup_38 (by decide) ?_
        refine lv_goto (tgt := 43) hx hb dX5_addGroup_39 (by decide) ?_
        refine m_put (C := RX5) (T := TX5) (N := 34) (v := .int 3) hx hb hts hi_X5 tyX5 tyX5_ok nmX5 hown hK hV hS 33 (p_m33 hM 3) rfl (by decide) k91 (fun _ h9 => h9) rfl (tyX5_ok 33 (by decide)) rfl rfl dX5_addGroup_43 (fun h H locs hV hS hM => ?_)
        refine lv_aload_n hx hb dX5_addGroup_46 rfl (lv_at hl 0 rfl) ?_
        refine m_get (C := RX5) (T := TX5) (N := 34) hx hb hts hi_X5 hown hK hV 33 (v := .int 3) (by have z9 := g_m33 hM; exact z9) rfl (by decide) k91 (fun _ h9 => h9) dX5_addGroup_47 ?_
        refine lv_if_le (tgt := 55) hx hb dX5_addGroup_50 (by decide) (fun c50 => (absurd c50 (by decide))) (fun c50 => ?_)
        refine lv_iconst (v := (-1)) hx hb dX5_addGroup_53 (by decide) ?_
        exact m_iret (v := (-1)) hx hb hr hlocks hV hS (⟨_, hM, Or.inr (Or.inr (Or.inl ⟨by intro z; rw [z] at c6; exact absurd c6 (by decide), c22, c35, rfl⟩))⟩) dX5_addGroup_54
    · replace c22 : (rg x1 1 9) = false := bI_0.mp c22
      refine lv_iconst (v := 2) hx hb dX5_addGroup_25 (by decide) ?_
      refine lv_goto (tgt := 43) hx hb dX5_addGroup_26 (by decide) ?_
      refine m_put (C := RX5) (T := TX5) (N := 34) (v := .int 2) hx hb hts hi_X5 tyX5 tyX5_ok nmX5 hown hK hV hS 33 (p_m33 hM 2) rfl (by decide) k91 (fun _ h9 => h9) rfl (tyX5_ok 33 (by decide)) rfl rfl dX5_addGroup_43 (fun h H locs hV hS hM => ?_)
      refine lv_aload_n hx hb dX5_addGroup_46 rfl (lv_at hl 0 rfl) ?_
      refine m_get (C := RX5) (T := TX5) (N := 34) hx hb hts hi_X5 hown hK hV 33 (v := .int 2) (by have z9 := g_m33 hM; exact z9) rfl (by decide) k91 (fun _ h9 => h9) dX5_addGroup_47 ?_
      refine lv_if_le (tgt := 55) hx hb dX5_addGroup_50 (by decide) (fun c50 => (absurd c50 (by decide))) (fun c50 => ?_)
      refine lv_iconst (v := (-1)) hx hb dX5_addGroup_53 (by decide) ?_
      exact m_iret (v := (-1)) hx hb hr hlocks hV hS (⟨_, hM, Or.inr (Or.inl ⟨by intro z; rw [z] at c6; exact absurd c6 (by decide), c22, rfl⟩)⟩) dX5_addGroup_54
  · replace c6 : ((inR x0 (kN μ 9 0)).isSome) = false := bI_0.mp c6
    refine lv_iconst (v := 1) hx hb dX5_addGroup_9 (by decide) ?_
    refine lv_goto (tgt := 43) hx hb dX5_addGroup_10 (by decide) ?_
    refine m_put (C := RX5) (T := TX5) (N := 34) (v := .int 1) hx hb hts hi_X5 tyX5 tyX5_ok nmX5 hown hK hV hS 33 (p_m33 hM 1) rfl (by decide) k91 (fun _ h9 => h9) rfl (tyX5_ok 33 (by decide)) rfl rfl dX5_addGroup_43 (fun h H locs hV hS hM => ?_)
    refine lv_aload_n hx hb dX5_addGroup_46 rfl (lv_at hl 0 rfl) ?_
    refine m_get (C := RX5) (T := TX5) (N := 34) hx hb hts hi_X5 hown hK hV 33 (v := .int 1) (by have z9 := g_m33 hM; exact z9) rfl (by decide) k91 (fun _ h9 => h9) dX5_addGroup_47 ?_
    refine lv_if_le (tgt := 55) hx hb dX5_addGroup_50 (by decide) (fun c50 => (absurd c50 (by decide))) (fun c50 => ?_)
    refine lv_iconst (v := (-1)) hx hb dX5_addGroup_53 (by decide) ?_
    exact m_iret (v := (-1)) hx hb hr hlocks hV hS (⟨_, hM, Or.inl ⟨Option.not_isSome_iff_eq_none.mp (by rw [c6]; decide), rfl⟩⟩) dX5_addGroup_54
set_option maxHeartbeats 4000000 in
set_option maxRecDepth 100000 in
theorem c_X5_adds {l : Launch} {D : va_G} {cs : mC} {df : Nat} {P : Nat → Prop} {h0 : mH} {B : Nat → Nat} {μ : KS} {hh : mH} (sz : Nat) (hM : DRep cs P h0 B μ hh) (p9 : Nat) (w : Int32) (u : Int32) (pe : Int32) (hp : p9 < kN μ 9 0) (h12 : kN μ 24 0 < 12) : Met l yX5_adds wsX5_adds ({ frames := 1, cells := 0, slots := 0, locals := 24 }) (mPre [.ref (B 100), .int (nI p9), .int w, .int u, .int pe] D cs df hh sz) (va_Qi ((fun (r : Int32) (h1 : mH) => DRep cs P h0 B (adM μ p9 w u pe) h1 ∧ r = nI (kN μ 24 0))) (mB D hh sz) (mA hh sz)) 0 0 (mA hh sz) := by
  refine Met.ofW (cc := cX5_adds) (maxL := 6) (ret := (some .int)) (by decide) rfl ?_
  intro p e s m args below meth c s₁ B0 hml hv
  obtain ⟨hargs, hsz, hV, hE⟩ := hv
  subst hsz
  have hx := B0.exec
  have hb := B0.bytes
  have hr := B0.returns
  have hlocks := B0.notSynchronized
  have hts := atoms_spec (ws := wsX5_adds) B0.pre
  have hown : s.vm.findClass RX5 = some m.cls := findClass_of_methodNamed B0.named
  have hK := hE.1.1
  have hA : ∀ q : Nat, s.heap.size ≤ q → mA hh s.heap.size q := mA.top
  have hS : va_S (mA hh s.heap.size) s.heap s.heap [] := va_S.rf
  have hi_X5 : ∀ w ∈ u_ws RX5 TX5 34, w ∈ wsX5_adds := by decide +kernel
  have k117 : (Cond.fieldLink RX5 117 "TaskKernelModel" "tasks" "I").before args s = true := hts _ (by decide +kernel)
  have k42 : (Cond.fieldLink RX5 42 "TaskKernelModel" "times" "[J").before args s = true := hts _ (by decide +kernel)
  have k36 : (Cond.fieldLink RX5 36 "TaskKernelModel" "groupOf" "[I").before args s = true := hts _ (by decide +kernel)
  have k39 : (Cond.fieldLink RX5 39 "TaskKernelModel" "weights" "[I").before args s = true := hts _ (by decide +kernel)
  have k45 : (Cond.fieldLink RX5 45 "TaskKernelModel" "lefts" "[I").before args s = true := hts _ (by decide +kernel)
  have k48 : (Cond.fieldLink RX5 48 "TaskKernelModel" "periods" "[I").before args s = true := hts _ (by decide +kernel)
  have k51 : (Cond.fieldLink RX5 51 "TaskKernelModel" "budgets" "[I").before args s = true := hts _ (by decide +kernel)
  have k54 : (Cond.fieldLink RX5 54 "TaskKernelModel" "deadlines" "[I").before args s = true := hts _ (by decide +kernel)
  have k129 : (Cond.fieldLink RX5 129 "TaskKernelModel" "now" "I").before args s = true := hts _ (by decide +kernel)
  have k57 : (Cond.fieldLink RX5 57 "TaskKernelModel" "addedIn" "[I").before args s = true := hts _ (by decide +kernel)
  have k60 : (Cond.fieldLink RX5 60 "TaskKernelModel" "missed" "[I").before args s = true := hts _ (by decide +kernel)
  have k63 : (Cond.fieldLink RX5 63 "TaskKernelModel" "done" "[I").before args s = true := hts _ (by decide +kernel)
  have k66 : (Cond.fieldLink RX5 66 "TaskKernelModel" "lastCore" "[I").before args s = true := hts _ (by decide +kernel)
  have k69 : (Cond.fieldLink RX5 69 "TaskKernelModel" "isEnded" "[Z").before args s = true := hts _ (by decide +kernel)
  have k73 : (Cond.fieldLink RX5 73 "TaskKernelModel" "waitsFor" "[I").before args s = true := hts _ (by decide +kernel)
  have hl := lv_entry ([.ref (B 100), .int (nI p9), .int w, .int u, .int pe]) (n := 6) (by first | exact Nat.le_of_ble_eq_true rfl | simp [lg_sl, rf_cat, ct_ref, ct_int, ct_null, ct_long])
  have hent := lg_entry_eq m ([.ref (B 100), .int (nI p9), .int w, .int u, .int pe]) 6
  rw [← hargs] at hent
  rw [hent]
  generalize (lg_sl ([.ref (B 100), .int (nI p9), .int w, .int u, .int pe]) ++ List.replicate (6 - (lg_sl ([.ref (B 100), .int (nI p9), .int w, .int u, .int pe])).length) Slot.unset).toArray = ls at hl ⊢
  replace hl : lv_has ls 6 [(0, .ref (B 100)), (1, .int (nI p9)), (2, .int w), (3, .int u), (4, .int pe)] := hl
  have hwf := hM.wf
  obtain ⟨⟨y0, y1, y2, y3⟩, y4, y5, y6, y7⟩ := hwf
  refine lv_aload_n hx hb dX5_adds_0 rfl (lv_at hl 0 rfl) ?_
  refine m_get (C := RX5) (T := TX5) (N := 34) hx hb hts hi_X5 hown hK hV 24 (v := .int (nI (kN μ 24 0))) (by have z9 := g_m24 hM; exact z9) rfl (by decide) k117 (fun _ h9 => h9) dX5_adds_1 ?_
  refine lv_istore (lv' := [(5, .int (nI (kN μ 24 0))), (0, .ref (B 100)), (1, .int (nI p9)), (2, .int w), (3, .int u), (4, .int pe)]) hx hb dX5_adds_4 hl (by decide) rfl (fun ls hl => ?_)
  refine lv_aload_n hx hb dX5_adds_6 rfl (lv_at hl 1 rfl) ?_
  refine m_get (C := RX5) (T := TX5) (N := 34) hx hb hts hi_X5 hown hK hV 12 (v := .ref (B 12)) (g_m12 hM) rfl (by decide) k42 (fun _ h9 => h9) dX5_adds_7 ?_
  refine lv_iload hx hb dX5_adds_10 (lv_at hl 0 rfl) ?_
  refine lv_aload_n hx hb dX5_adds_12 rfl (lv_at hl 1 rfl) ?_
  refine lv_iload_n hx hb dX5_adds_13 rfl (lv_at hl 2 rfl) ?_
  refine m_calll (va_runV (As := [.int (nI p9)]) (rest := [.int (nI (kN μ 24 0)), .ref (B 12)]) ⟨hx, hb, hml, hown, hts⟩ (c_X5_leastIn (l := l) (s.heap.size) hM p9 (by first | assumption | omega)) (cwV 1 hts gX5_adds_X5_leastIn rfl rfl rfl (by decide +kernel) ⟨by decide, by decide⟩) (m_preV (r := (RX5, TX5, 34)) hE hV hS hA (hM.at 100 (by decide)) rfl) rfl rfl hl.1 rfl (lv_room (by first | exact Nat.le_of_ble_eq_true rfl | simp [rf_cat, ct_ref, ct_int, ct_null, ct_long])) dX5_adds_14 ⟨by decide, by decide⟩) hV hS hA (fun r h1 H locs hV hS hp _ => ?_)
  obtain ⟨e1, e2⟩ := hp
  subst e2
  rw [e1] at hV; clear e1
  refine m_last hx hb hK hV hS 1 (i := nI (kN μ 24 0)) (x := (lsM μ p9)) (q_m12 hM (by omega) (lsM μ p9)) rfl (vp_in_nI (by omega) (by omega)) dX5_adds_17 (fun h H locs hV hS hM => ?_)
  refine lv_aload_n hx hb dX5_adds_18 rfl (lv_at hl 1 rfl) ?_
  refine m_get (C := RX5) (T := TX5) (N := 34) hx hb hts hi_X5 hown hK hV 10 (v := .ref (B 10)) (g_m10 hM) rfl (by decide) k36 (fun _ h9 => h9) dX5_adds_19 ?_
  refine lv_iload hx hb dX5_adds_22 (lv_at hl 0 rfl) ?_
  refine lv_iload_n hx hb dX5_adds_24 rfl (lv_at hl 2 rfl) ?_
  refine m_iast hx hb hK hV hS 0 (i := nI (kN μ 24 0)) (x := nI p9) (q_m10 hM (by omega) p9 (dWF_10 hM.wf (Nat.le_refl _))) rfl (vp_in_nI (by omega) (by omega)) dX5_adds_25 (fun h H locs hV hS hM => ?_)
  refine lv_aload_n hx hb dX5_adds_26 rfl (lv_at hl 1 rfl) ?_
  refine m_get (C := RX5) (T := TX5) (N := 34) hx hb hts hi_X5 hown hK hV 11 (v := .ref (B 11)) (g_m11 hM) rfl (by decide) k39 (fun _ h9 => h9) dX5_adds_27 ?_
  refine lv_iload hx hb dX5_adds_30 (lv_at hl 0 rfl) ?_
  refine lv_iload_n hx hb dX5_adds_32 rfl (lv_at hl 3 rfl) ?_
  refine m_iast hx hb hK hV hS 0 (i := nI (kN μ 24 0)) (x := w) (q_m11 hM (by omega) w) rfl (vp_in_nI (by omega) (by omega)) dX5_adds_33 (fun h H locs hV hS hM => ?_)
  refine lv_aload_n hx hb dX5_adds_34 rfl (lv_at hl 1 rfl) ?_
  refine m_get (C := RX5) (T := TX5) (N := 34) hx hb hts hi_X5 hown hK hV 13 (v := .ref (B 13)) (g_m13 hM) rfl (by decide) k45 (fun _ h9 => h9) dX5_adds_35 ?_
  refine lv_iload hx hb dX5_adds_38 (lv_at hl 0 rfl) ?_
  refine lv_iload_n hx hb dX5_adds_40 rfl (lv_at hl 4 rfl) ?_
  refine m_iast hx hb hK hV hS 0 (i := nI (kN μ 24 0)) (x := u) (q_m13 hM (by omega) u) rfl (vp_in_nI (by omega) (by omega)) dX5_adds_41 (fun h H locs hV hS hM => ?_)
  refine lv_aload_n hx hb dX5_adds_42 rfl (lv_at hl 1 rfl) ?_
  refine m_get (C := RX5) (T := TX5) (N := 34) hx hb hts hi_X5 hown hK hV 14 (v := .ref (B 14)) (g_m14 hM) rfl (by decide) k48 (fun _ h9 => h9) dX5_adds_43 ?_
  refine lv_iload hx hb dX5_adds_46 (lv_at hl 0 rfl) ?_
  refine lv_iload hx hb dX5_adds_48 (lv_at hl 5 rfl) ?_
  refine m_iast hx hb hK hV hS 0 (i := nI (kN μ 24 0)) (x := pe) (q_m14 hM (by omega) pe) rfl (vp_in_nI (by omega) (by omega)) dX5_adds_50 (fun h H locs hV hS hM => ?_)
  refine lv_aload_n hx hb dX5_adds_51 rfl (lv_at hl 1 rfl) ?_
  refine m_get (C := RX5) (T := TX5) (N := 34) hx hb hts hi_X5 hown hK hV 15 (v := .ref (B 15)) (g_m15 hM) rfl (by decide) k51 (fun _ h9 => h9) dX5_adds_52 ?_
  refine lv_iload hx hb dX5_adds_55 (lv_at hl 0 rfl) ?_
  refine lv_iload_n hx hb dX5_adds_57 rfl (lv_at hl 4 rfl) ?_
  refine m_iast hx hb hK hV hS 0 (i := nI (kN μ 24 0)) (x := u) (q_m15 hM (by omega) u) rfl (vp_in_nI (by omega) (by omega)) dX5_adds_58 (fun h H locs hV hS hM => ?_)
  refine lv_aload_n hx hb dX5_adds_59 rfl (lv_at hl 1 rfl) ?_
  refine m_get (C := RX5) (T := TX5) (N := 34) hx hb hts hi_X5 hown hK hV 16 (v := .ref (B 16)) (g_m16 hM) rfl (by decide) k54 (fun _ h9 => h9) dX5_adds_60 ?_
  refine lv_iload hx hb dX5_adds_63 (lv_at hl 0 rfl) ?_
  refine lv_aload_n hx hb dX5_adds_65 rfl (lv_at hl 1 rfl) ?_
  refine m_get (C := RX5) (T := TX5) (N := 34) hx hb hts hi_X5 hown hK hV 0 (v := .int (kI μ 0 0)) (by have z9 := g_m0 hM; exact z9) rfl (by decide) k129 (fun _ h9 => h9) dX5_adds_66 ?_
  refine lv_iload hx hb dX5_adds_69 (lv_at hl 5 rfl) ?_
  refine lv_iadd hx hb dX5_adds_71 ?_
  refine m_iast hx hb hK hV hS 0 (i := nI (kN μ 24 0)) (x := ((kI μ 0 0) + pe)) (q_m16 hM (by omega) ((kI μ 0 0) + pe)) rfl (vp_in_nI (by omega) (by omega)) dX5_adds_72 (fun h H locs hV hS hM => ?_)
  refine lv_aload_n hx hb dX5_adds_73 rfl (lv_at hl 1 rfl) ?_
  refine m_get (C := RX5) (T := TX5) (N := 34) hx hb hts hi_X5 hown hK hV 17 (v := .ref (B 17)) (g_m17 hM) rfl (by decide) k57 (fun _ h9 => h9) dX5_adds_74 ?_
  refine lv_iload hx hb dX5_adds_77 (lv_at hl 0 rfl) ?_
  refine lv_aload_n hx hb dX5_adds_79 rfl (lv_at hl 1 rfl) ?_
  refine m_get (C := RX5) (T := TX5) (N := 34) hx hb hts hi_X5 hown hK hV 0 (v := .int (kI μ 0 0)) (by have z9 := g_m0 hM; exact z9) rfl (by decide) k129 (fun _ h9 => h9) dX5_adds_80 ?_
  refine m_iast hx hb hK hV hS 0 (i := nI (kN μ 24 0)) (x := (kI μ 0 0)) (q_m17 hM (by omega) (kI μ 0 0)) rfl (vp_in_nI (by omega) (by omega)) dX5_adds_83 (fun h H locs hV hS hM => ?_)
  refine lv_aload_n hx hb dX5_adds_84 rfl (lv_at hl 1 rfl) ?_
  refine m_get (C := RX5) (T := TX5) (N := 34) hx hb hts hi_X5 hown hK hV 18 (v := .ref (B 18)) (g_m18 hM) rfl (by decide) k60 (fun _ h9 => h9) dX5_adds_85 ?_
  refine lv_iload hx hb dX5_adds_88 (lv_at hl 0 rfl) ?_
  refine lv_iconst (v := 0) hx hb dX5_adds_90 (by decide) ?_
  refine m_iast hx hb hK hV hS 0 (i := nI (kN μ 24 0)) (x := 0) (q_m18 hM (by omega) 0) rfl (vp_in_nI (by omega) (by omega)) dX5_adds_91 (fun h H locs hV hS hM => ?_)
  refine lv_aload_n hx hb dX5_adds_92 rfl (lv_at hl 1 rfl) ?_
  refine m_get (C := RX5) (T := TX5) (N := 34) hx hb hts hi_X5 hown hK hV 19 (v := .ref (B 19)) (g_m19 hM) rfl (by decide) k63 (fun _ h9 => h9) dX5_adds_93 ?_
  refine lv_iload hx hb dX5_adds_96 (lv_at hl 0 rfl) ?_
  refine lv_iconst (v := 0) hx hb dX5_adds_98 (by decide) ?_
  refine m_iast hx hb hK hV hS 0 (i := nI (kN μ 24 0)) (x := 0) (q_m19 hM (by omega) 0) rfl (vp_in_nI (by omega) (by omega)) dX5_adds_99 (fun h H locs hV hS hM => ?_)
  refine lv_aload_n hx hb dX5_adds_100 rfl (lv_at hl 1 rfl) ?_
  refine m_get (C := RX5) (T := TX5) (N := 34) hx hb hts hi_X5 hown hK hV 20 (v := .ref (B 20)) (g_m20 hM) rfl (by decide) k66 (fun _ h9 => h9) dX5_adds_101 ?_
  refine lv_iload hx hb dX5_adds_104 (lv_at hl 0 rfl) ?_
  refine lv_iconst (v := (-1)) hx hb dX5_adds_106 (by decide) ?_
  refine m_iast hx hb hK hV hS 0 (i := nI (kN μ 24 0)) (x := oI none) (q_m20 hM (by omega) none) rfl (vp_in_nI (by omega) (by omega)) dX5_adds_107 (fun h H locs hV hS hM => ?_)
  refine lv_aload_n hx hb dX5_adds_108 rfl (lv_at hl 1 rfl) ?_
  refine m_get (C := RX5) (T := TX5) (N := 34) hx hb hts hi_X5 hown hK hV 21 (v := .ref (B 21)) (g_m21 hM) rfl (by decide) k69 (fun _ h9 => h9) dX5_adds_109 ?_
  refine lv_iload hx hb dX5_adds_112 (lv_at hl 0 rfl) ?_
  refine lv_iconst (v := 0) hx hb dX5_adds_114 (by decide) ?_
  refine m_zast hx hb hK hV hS 2 (i := nI (kN μ 24 0)) (x := bI false) (q_m21 hM (by omega) false) rfl (vp_in_nI (by omega) (by omega)) (bI_nar _) dX5_adds_115 (fun h H locs hV hS hM => ?_)
  refine lv_aload_n hx hb dX5_adds_116 rfl (lv_at hl 1 rfl) ?_
  refine m_get (C := RX5) (T := TX5) (N := 34) hx hb hts hi_X5 hown hK hV 22 (v := .ref (B 22)) (g_m22 hM) rfl (by decide) k73 (fun _ h9 => h9) dX5_adds_117 ?_
  refine lv_iload hx hb dX5_adds_120 (lv_at hl 0 rfl) ?_
  refine lv_iconst (v := (-1)) hx hb dX5_adds_122 (by decide) ?_
  refine m_iast hx hb hK hV hS 0 (i := nI (kN μ 24 0)) (x := oI none) (q_m22 hM (by omega) none (dWF_22n hM.wf _)) rfl (vp_in_nI (by omega) (by omega)) dX5_adds_123 (fun h H locs hV hS hM => ?_)
  refine lv_aload_n hx hb dX5_adds_124 rfl (lv_at hl 1 rfl) ?_
  refine lv_dup hx hb dX5_adds_125 rfl ?_
  refine m_get (C := RX5) (T := TX5) (N := 34) hx hb hts hi_X5 hown hK hV 24 (v := .int (nI (kN μ 24 0))) (by have z9 := g_m24 hM; exact z9) rfl (by decide) k117 (fun _ h9 => h9) dX5_adds_126 ?_
  refine lv_iconst (v := 1) hx hb dX5_adds_129 (by decide) ?_
  refine lv_iadd hx hb dX5_adds_130 ?_
  refine m_topi (y := nI (kN μ 24 0 + 1)) (nI_add (kN μ 24 0) 1) ?_
  refine m_put (C := RX5) (T := TX5) (N := 34) (v := .int (nI (kN μ 24 0 + 1))) hx hb hts hi_X5 tyX5 tyX5_ok nmX5 hown hK hV hS 24 (p_m24 hM (kN μ 24 0 + 1) (dWF_24 hM.wf h12 (by show va_up (kN μ 10) (kN μ 24 0) p9 (kN μ 24 0) < kN μ 9 0; rw [vu_s]; exact hp) (vu_s _ _ _))) rfl (by decide) k117 (fun _ h9 => h9) rfl (tyX5_ok 24 (by decide)) rfl rfl dX5_adds_131 (fun h H locs hV hS hM => ?_)
  refine lv_iload hx hb dX5_adds_134 (lv_at hl 0 rfl) ?_
  exact m_iret (v := nI (kN μ 24 0)) hx hb hr hlocks hV hS (⟨hM, rfl⟩) dX5_adds_136
set_option maxHeartbeats 4000000 in
set_option maxRecDepth 100000 in
theorem c_X5_addPlain {l : Launch} {D : va_G} {cs : mC} {df : Nat} {P : Nat → Prop} {h0 : mH} {B : Nat → Nat} {μ : KS} {hh : mH} (sz : Nat) (hM : DRep cs P h0 B μ hh) (x0 : Int32) (x1 : Int32) (x2 : Int32) : Met l yX5_addPlain wsX5_addPlain ({ frames := 2, cells := 0, slots := 0, locals := 49 }) (mPre [.ref (B 100), .int x0, .int x1, .int x2] D cs df hh sz) (va_Qi ((fun (r : Int32) (h1 : mH) => ∃ μ1 : KS, DRep cs P h0 B μ1 h1 ∧ om_addPlain μ x0 x1 x2 r μ1)) (mB D hh sz) (mA hh sz)) 0 0 (mA hh sz) := by
  refine Met.ofW (cc := cX5_addPlain) (maxL := 5) (ret := (some .int)) (by decide) rfl ?_
  intro p e s m args below meth c s₁ B0 hml hv
  obtain ⟨hargs, hsz, hV, hE⟩ := hv
  subst hsz
  have hx := B0.exec
  have hb := B0.bytes
  have hr := B0.returns
  have hlocks := B0.notSynchronized
  have hts := atoms_spec (ws := wsX5_addPlain) B0.pre
  have hown : s.vm.findClass RX5 = some m.cls := findClass_of_methodNamed B0.named
  have hK := hE.1.1
  have hA : ∀ q : Nat, s.heap.size ≤ q → mA hh s.heap.size q := mA.top
  have hS : va_S (mA hh s.heap.size) s.heap s.heap [] := va_S.rf
  have kk123 : (Cond.constantLong RX5 123 (9)).before args s = true := hts _ (by decide +kernel)
  have k91 : (Cond.fieldLink RX5 91 "TaskKernelModel" "thrown" "I").before args s = true := hts _ (by decide +kernel)
  have hi_X5 : ∀ w ∈ u_ws RX5 TX5 34, w ∈ wsX5_addPlain := by decide +kernel
  have kk132 : (Cond.constantLong RX5 132 (500)).before args s = true := hts _ (by decide +kernel)
  have k117 : (Cond.fieldLink RX5 117 "TaskKernelModel" "tasks" "I").before args s = true := hts _ (by decide +kernel)
  have hl := lv_entry ([.ref (B 100), .int x0, .int x1, .int x2]) (n := 5) (by first | exact Nat.le_of_ble_eq_true rfl | simp [lg_sl, rf_cat, ct_ref, ct_int, ct_null, ct_long])
  have hent := lg_entry_eq m ([.ref (B 100), .int x0, .int x1, .int x2]) 5
  rw [← hargs] at hent
  rw [hent]
  generalize (lg_sl ([.ref (B 100), .int x0, .int x1, .int x2]) ++ List.replicate (5 - (lg_sl ([.ref (B 100), .int x0, .int x1, .int x2])).length) Slot.unset).toArray = ls at hl ⊢
  replace hl : lv_has ls 5 [(0, .ref (B 100)), (1, .int x0), (2, .int x1), (3, .int x2)] := hl
  have hwf := hM.wf
  obtain ⟨⟨y0, y1, y2, y3⟩, y4, y5, y6, y7⟩ := hwf
  refine lv_iload_n hx hb dX5_addPlain_0 rfl (lv_at hl 2 rfl) ?_
  refine lv_i2l (v := (x1).toInt64) hx hb dX5_addPlain_1 rfl ?_
  refine lv_lconst (v := 1) hx hb dX5_addPlain_2 (by decide) ?_
  refine lv_ldc2 (v := 9) hx hb hown kk123 dX5_addPlain_3 ?_
  refine m_calli (va_runS (As := [.long ((x1).toInt64), .long 1, .long 9]) (rest := []) ⟨hx, hb, hml, hown, hts⟩ (c_X5_in (l := l) (D := D) (cs := cs) (df := df) (hh := hh) (s.heap.size) ((x1).toInt64) 1 9) (va_cwS 3 hts gX5_addPlain_X5_in rfl rfl rfl (by decide +kernel) ⟨by decide, by decide⟩) (m_preS hE hV hS hA) rfl rfl hl.1 rfl (lv_room (by first | exact Nat.le_of_ble_eq_true rfl | simp [rf_cat, ct_ref, ct_int, ct_null, ct_long])) dX5_addPlain_6 ⟨by decide, by decide⟩) hV hS hA (fun r h1 H locs hV hS hp _ => ?_)
  obtain ⟨e1, e2⟩ := hp
  subst e2
  rw [e1] at hV; clear e1
  refine m_topi (y := bI (rg x1 1 9)) (congrArg bI (inL_rg (by decide) (by decide))) ?_
  refine lv_if_eq (tgt := 28) hx hb dX5_addPlain_9 (by decide) (fun c9 => ?_) (fun c9 => ?_)
  · replace c9 : (rg x1 1 9) = false := bI_0.mp c9
    refine lv_iconst (v := 0) hx hb dX5_addPlain_28 (by decide) ?_
    refine lv_istore (lv' := [(4, .int 0), (0, .ref (B 100)), (1, .int x0), (2, .int x1), (3, .int x2)]) hx hb dX5_addPlain_29 hl (by decide) rfl (fun ls hl => ?_)
    refine lv_aload_n hx hb dX5_addPlain_31 rfl (lv_at hl 1 rfl) ?_
    refine lv_aload_n hx hb dX5_addPlain_32 rfl (lv_at hl 1 rfl) ?_
    refine lv_iload_n hx hb dX5_addPlain_33 rfl (lv_at hl 2 rfl) ?_
    refine m_calli (va_runV (As := [.int x0]) (rest := [.ref (B 100)]) ⟨hx, hb, hml, hown, hts⟩ (c_X5_isGroup (l := l) (H.size) hM x0) (cwV 1 hts gX5_addPlain_X5_isGroup rfl rfl rfl (by decide +kernel) ⟨by decide, by decide⟩) (m_preV (r := (RX5, TX5, 34)) hE hV hS hA (hM.at 100 (by decide)) rfl) rfl rfl hl.1 rfl (lv_room (by first | exact Nat.le_of_ble_eq_true rfl | simp [rf_cat, ct_ref, ct_int, ct_null, ct_long])) dX5_addPlain_34 ⟨by decide, by decide⟩) hV hS hA (fun r h1 H locs hV hS hp _ => ?_)
    obtain ⟨e1, e2⟩ := hp
    subst e2
    rw [e1] at hV; clear e1
    refine lv_if_ne (tgt := 44) hx hb dX5_addPlain_37 (by decide) (fun c37 => ?_) (fun c37 => ?_)
    · replace c37 : ((inR x0 (kN μ 9 0)).isSome) = true := bI_1.mp c37
      refine lv_iload hx hb dX5_addPlain_44 (lv_at hl 0 rfl) ?_
      refine lv_if_ne (tgt := 53) hx hb dX5_addPlain_46 (by decide) (fun c46 => (absurd (by decide) c46)) (fun c46 => ?_)
      refine lv_iconst (v := 2) hx hb dX5_addPlain_49 (by decide) ?_
      refine lv_goto (tgt := 67) hx hb dX5_addPlain_50 (by decide) ?_
      refine m_put (C := RX5) (T := TX5) (N := 34) (v := .int 2) hx hb hts hi_X5 tyX5 tyX5_ok nmX5 hown hK hV hS 33 (p_m33 hM 2) rfl (by decide) k91 (fun _ h9 => h9) rfl (tyX5_ok 33 (by decide)) rfl rfl dX5_addPlain_67 (fun h H locs hV hS hM => ?_)
      refine lv_aload_n hx hb dX5_addPlain_70 rfl (lv_at hl 1 rfl) ?_
      refine m_get (C := RX5) (T := TX5) (N := 34) hx hb hts hi_X5 hown hK hV 33 (v := .int 2) (by have z9 := g_m33 hM; exact z9) rfl (by decide) k91 (fun _ h9 => h9) dX5_addPlain_71 ?_
      refine lv_if_ne (tgt := 88) hx hb dX5_addPlain_74 (by decide) (fun c74 => ?_) (fun c74 => (absurd c74 (by decide)))
      refine lv_iconst (v := (-1)) hx hb dX5_addPlain_88 (by decide) ?_
      exact m_iret (v := (-1)) hx hb hr hlocks hV hS (⟨_, hM, Or.inr (Or.inl ⟨by intro z; rw [z] at c37; exact absurd c37 (by decide), (fun z => absurd z.1 (by rw [c9]; decide)), rfl⟩)⟩) dX5_addPlain_89
    · replace c37 : ((inR x0 (kN μ 9 0)).isSome) = false := bI_0.mp c37
      refine lv_iconst (v := 1) hx hb dX5_addPlain_40 (by decide) ?_
      refine lv_goto (tgt := 67) hx hb dX5_addPlain_41 (by decide) ?_
      refine m_put (C := RX5) (T := TX5) (N := 34) (v := .int 1) hx hb hts hi_X5 tyX5 tyX5_ok nmX5 hown hK hV hS 33 (p_m33 hM 1) rfl (by decide) k91 (fun _ h9 => h9) rfl (tyX5_ok 33 (by decide)) rfl rfl dX5_addPlain_67 (fun h H locs hV hS hM => ?_)
      refine lv_aload_n hx hb dX5_addPlain_70 rfl (lv_at hl 1 rfl) ?_
      refine m_get (C := RX5) (T := TX5) (N := 34) hx hb hts hi_X5 hown hK hV 33 (v := .int 1) (by have z9 := g_m33 hM; exact z9) rfl (by decide) k91 (fun _ h9 => h9) dX5_addPlain_71 ?_
      refine lv_if_ne (tgt := 88) hx hb dX5_addPlain_74 (by decide) (fun c74 => ?_) (fun c74 => (absurd c74 (by decide)))
      refine lv_iconst (v := (-1)) hx hb dX5_addPlain_88 (by decide) ?_
      exact m_iret (v := (-1)) hx hb hr hlocks hV hS (⟨_, hM, Or.inl ⟨Option.not_isSome_iff_eq_none.mp (by rw [c37]; decide), rfl⟩⟩) dX5_addPlain_89
  · replace c9 : (rg x1 1 9) = true := bI_1.mp c9
    refine lv_iload_n hx hb dX5_addPlain_12 rfl (lv_at hl 3 rfl) ?_
    refine lv_i2l (v := (x2).toInt64) hx hb dX5_addPlain_13 rfl ?_
    refine lv_lconst (v := 1) hx hb dX5_addPlain_14 (by decide) ?_
    refine lv_ldc2 (v := 500) hx hb hown kk132 dX5_addPlain_15 ?_
    refine m_calli (va_runS (As := [.long ((x2).toInt64), .long 1, .long 500]) (rest := []) ⟨hx, hb, hml, hown, hts⟩ (c_X5_in (l := l) (D := D) (cs := cs) (df := df) (hh := hh) (H.size) ((x2).toInt64) 1 500) (va_cwS 3 hts gX5_addPlain_X5_in rfl rfl rfl (by decide +kernel) ⟨by decide, by decide⟩) (m_preS hE hV hS hA) rfl rfl hl.1 rfl (lv_room (by first | exact Nat.le_of_ble_eq_true rfl | simp [rf_cat, ct_ref, ct_int, ct_null, ct_long])) dX5_addPlain_18 ⟨by decide, by decide⟩) hV hS hA (fun r h1 H locs hV hS hp _ => ?_)
    obtain ⟨e1, e2⟩ := hp
    subst e2
    rw [e1] at hV; clear e1
    refine m_topi (y := bI (rg x2 1 500)) (congrArg bI (inL_rg (by decide) (by decide))) ?_
    refine lv_if_eq (tgt := 28) hx hb dX5_addPlain_21 (by decide) (fun c21 => ?_) (fun c21 => ?_)
    · replace c21 : (rg x2 1 500) = false := bI_0.mp c21
      refine lv_iconst (v := 0) hx hb dX5_addPlain_28 (by decide) ?_
      refine lv_istore (lv' := [(4, .int 0), (0, .ref (B 100)), (1, .int x0), (2, .int x1), (3, .int x2)]) hx hb dX5_addPlain_29 hl (by decide) rfl (fun ls hl => ?_)
      refine lv_aload_n hx hb dX5_addPlain_31 rfl (lv_at hl 1 rfl) ?_
      refine lv_aload_n hx hb dX5_addPlain_32 rfl (lv_at hl 1 rfl) ?_
      refine lv_iload_n hx hb dX5_addPlain_33 rfl (lv_at hl 2 rfl) ?_
      refine m_calli (va_runV (As := [.int x0]) (rest := [.ref (B 100)]) ⟨hx, hb, hml, hown, hts⟩ (c_X5_isGroup (l := l) (H.size) hM x0) (cwV 1 hts gX5_addPlain_X5_isGroup rfl rfl rfl (by decide +kernel) ⟨by decide, by decide⟩) (m_preV (r := (RX5, TX5, 34)) hE hV hS hA (hM.at 100 (by decide)) rfl) rfl rfl hl.1 rfl (lv_room (by first | exact Nat.le_of_ble_eq_true rfl | simp [rf_cat, ct_ref, ct_int, ct_null, ct_long])) dX5_addPlain_34 ⟨by decide, by decide⟩) hV hS hA (fun r h1 H locs hV hS hp _ => ?_)
      obtain ⟨e1, e2⟩ := hp
      subst e2
      rw [e1] at hV; clear e1
      refine lv_if_ne (tgt := 44) hx hb dX5_addPlain_37 (by decide) (fun c37 => ?_) (fun c37 => ?_)
      · replace c37 : ((inR x0 (kN μ 9 0)).isSome) = true := bI_1.mp c37
        refine lv_iload hx hb dX5_addPlain_44 (lv_at hl 0 rfl) ?_
        refine lv_if_ne (tgt := 53) hx hb dX5_addPlain_46 (by decide) (fun c46 => (absurd (by decide) c46)) (fun c46 => ?_)
        refine lv_iconst (v := 2) hx hb dX5_addPlain_49 (by decide) ?_
        refine lv_goto (tgt := 67) hx hb dX5_addPlain_50 (by decide) ?_
        refine m_put (C := RX5) (T := TX5) (N := 34) (v := .int 2) hx hb hts hi_X5 tyX5 tyX5_ok nmX5 hown hK hV hS 33 (p_m33 hM 2) rfl (by decide) k91 (fun _ h9 => h9) rfl (tyX5_ok 33 (by decide)) rfl rfl dX5_addPlain_67 (fun h H locs hV hS hM => ?_)
        refine lv_aload_n hx hb dX5_addPlain_70 rfl (lv_at hl 1 rfl) ?_
        refine m_get (C := RX5) (T := TX5) (N := 34) hx hb hts hi_X5 hown hK hV 33 (v := .int 2) (by have z9 := g_m33 hM; exact z9) rfl (by decide) k91 (fun _ h9 => h9) dX5_addPlain_71 ?_
        refine lv_if_ne (tgt := 88) hx hb dX5_addPlain_74 (by decide) (fun c74 => ?_) (fun c74 => (absurd c74 (by decide)))
        refine lv_iconst (v := (-1)) hx hb dX5_addPlain_88 (by decide) ?_
        exact m_iret (v := (-1)) hx hb hr hlocks hV hS (⟨_, hM, Or.inr (Or.inl ⟨by intro z; rw [z] at c37; exact absurd c37 (by decide), (fun z => absurd z.2 (by rw [c21]; decide)), rfl⟩)⟩) dX5_addPlain_89
      · replace c37 : ((inR x0 (kN μ 9 0)).isSome) = false := bI_0.mp c37
        refine lv_iconst (v := 1) hx hb dX5_addPlain_40 (by decide) ?_
        refine lv_goto (tgt := 67) hx hb dX5_addPlain_41 (by decide) ?_
        refine m_put (C := RX5) (T := TX5) (N := 34) (v := .int 1) hx hb hts hi_X5 tyX5 tyX5_ok nmX5 hown hK hV hS 33 (p_m33 hM 1) rfl (by decide) k91 (fun _ h9 => h9) rfl (tyX5_ok 33 (by decide)) rfl rfl dX5_addPlain_67 (fun h H locs hV hS hM => ?_)
        refine lv_aload_n hx hb dX5_addPlain_70 rfl (lv_at hl 1 rfl) ?_
        refine m_get (C := RX5) (T := TX5) (N := 34) hx hb hts hi_X5 hown hK hV 33 (v := .int 1) (by have z9 := g_m33 hM; exact z9) rfl (by decide) k91 (fun _ h9 => h9) dX5_addPlain_71 ?_
        refine lv_if_ne (tgt := 88) hx hb dX5_addPlain_74 (by decide) (fun c74 => ?_) (fun c74 => (absurd c74 (by decide)))
        refine lv_iconst (v := (-1)) hx hb dX5_addPlain_88 (by decide) ?_
        exact m_iret (v := (-1)) hx hb hr hlocks hV hS (⟨_, hM, Or.inl ⟨Option.not_isSome_iff_eq_none.mp (by rw [c37]; decide), rfl⟩⟩) dX5_addPlain_89
    · replace c21 : (rg x2 1 500) = true := bI_1.mp c21
      refine lv_iconst (v := 1) hx hb dX5_addPlain_24 (by decide) ?_
      refine lv_goto (tgt := 29) hx hb dX5_addPlain_25 (by decide) ?_
      refine lv_istore (lv' := [(4, .int 1), (0, .ref (B 100)), (1, .int x0), (2, .int x1), (3, .int x2)]) hx hb dX5_addPlain_29 hl (by decide) rfl (fun ls hl => ?_)
      refine lv_aload_n hx hb dX5_addPlain_31 rfl (lv_at hl 1 rfl) ?_
      refine lv_aload_n hx hb dX5_addPlain_32 rfl (lv_at hl 1 rfl) ?_
      refine lv_iload_n hx hb dX5_addPlain_33 rfl (lv_at hl 2 rfl) ?_
      refine m_calli (va_runV (As := [.int x0]) (rest := [.ref (B 100)]) ⟨hx, hb, hml, hown, hts⟩ (c_X5_isGroup (l := l) (H.size) hM x0) (cwV 1 hts gX5_addPlain_X5_isGroup rfl rfl rfl (by decide +kernel) ⟨by decide, by decide⟩) (m_preV (r := (RX5, TX5, 34)) hE hV hS hA (hM.at 100 (by decide)) rfl) rfl rfl hl.1 rfl (lv_room (by first | exact Nat.le_of_ble_eq_true rfl | simp [rf_cat, ct_ref, ct_int, ct_null, ct_long])) dX5_addPlain_34 ⟨by decide, by decide⟩) hV hS hA (fun r h1 H locs hV hS hp _ => ?_)
      obtain ⟨e1, e2⟩ := hp
      subst e2
      rw [e1] at hV; clear e1
      refine lv_if_ne (tgt := 44) hx hb dX5_addPlain_37 (by decide) (fun c37 => ?_) (fun c37 => ?_)
      · replace c37 : ((inR x0 (kN μ 9 0)).isSome) = true := bI_1.mp c37
        refine lv_iload hx hb dX5_addPlain_44 (lv_at hl 0 rfl) ?_
        refine lv_if_ne (tgt := 53) hx hb dX5_addPlain_46 (by decide) (fun c46 => ?_) (fun c46 => (absurd c46 (by decide)))
        refine lv_aload_n hx hb dX5_addPlain_53 rfl (lv_at hl 1 rfl) ?_
        refine m_get (C := RX5) (T := TX5) (N := 34) hx hb hts hi_X5 hown hK hV 24 (v := .int (nI (kN μ 24 0))) (by have z9 := g_m24 hM; exact z9) rfl (by decide) k117 (fun _ h9 => h9) dX5_addPlain_54 ?_
        refine lv_bipush (v := 12) hx hb dX5_addPlain_57 (by decide) ?_
        refine lv_icmp_ne (tgt := 66) hx hb dX5_addPlain_59 (by decide) (fun c59 => ?_) (fun c59 => ?_)
        · replace c59 : ¬ kN μ 24 0 = 12 := fun q9 => c59 ((nI_eq (a := kN μ 24 0) (b := 12) (by omega) (by omega)).mpr q9)
          refine lv_iconst (v := 0) hx hb dX5_addPlain_66 (by decide) ?_
          refine m_put (C := RX5) (T := TX5) (N := 34) (v := .int 0) hx hb hts hi_X5 tyX5 tyX5_ok nmX5 hown hK hV hS 33 (p_m33 hM 0) rfl (by decide) k91 (fun _ h9 => h9) rfl (tyX5_ok 33 (by decide)) rfl rfl dX5_addPlain_67 (fun h H locs hV hS hM => ?_)
          refine lv_aload_n hx hb dX5_addPlain_70 rfl (lv_at hl 1 rfl) ?_
          refine m_get (C := RX5) (T := TX5) (N := 34) hx hb hts hi_X5 hown hK hV 33 (v := .int 0) (by have z9 := g_m33 hM; exact z9) rfl (by decide) k91 (fun _ h9 => h9) dX5_addPlain_71 ?_
          refine lv_if_ne (tgt := 88) hx hb dX5_addPlain_74 (by decide) (fun c74 => (absurd (by decide) c74)) (fun c74 => ?_)
          obtain ⟨t, ht⟩ := Option.isSome_iff_exists.mp c37
          obtain ⟨rfl, bt⟩ := inR_some ht
          refine lv_aload_n hx hb dX5_addPlain_77 rfl (lv_at hl 1 rfl) ?_
          refine lv_iload_n hx hb dX5_addPlain_78 rfl (lv_at hl 2 rfl) ?_
          refine lv_iload_n hx hb dX5_addPlain_79 rfl (lv_at hl 3 rfl) ?_
          refine lv_iload_n hx hb dX5_addPlain_80 rfl (lv_at hl 4 rfl) ?_
          refine lv_iconst (v := 0) hx hb dX5_addPlain_81 (by decide) ?_
          refine m_calli (va_runV (As := [.int (nI t), .int x1, .int x2, .int 0]) (rest := []) ⟨hx, hb, hml, hown, hts⟩ (c_X5_adds (l := l) (H.size) hM t x1 x2 0 bt (show kN μ 24 0 < 12 by omega)) (cwV 4 hts gX5_addPlain_X5_adds rfl rfl rfl (by decide +kernel) ⟨by decide, by decide⟩) (m_preV (r := (RX5, TX5, 34)) hE hV hS hA (hM.at 100 (by decide)) rfl) rfl rfl hl.1 rfl (lv_room (by first | exact Nat.le_of_ble_eq_true rfl | simp [rf_cat, ct_ref, ct_int, ct_null, ct_long])) dX5_addPlain_82 ⟨by decide, by decide⟩) hV hS hA (fun r h H locs hV hS hp _ => ?_)
          obtain ⟨hM, e2⟩ := hp
          subst e2
          refine lv_goto (tgt := 89) hx hb dX5_addPlain_85 (by decide) ?_
          exact m_iret (v := nI (kN (sI μ 33 (va_up (kI μ 33) 0 0)) 24 0)) hx hb hr hlocks hV hS (⟨_, hM, Or.inr (Or.inr (Or.inr ⟨t, ht, ⟨c9, c21⟩, c59, rfl, rfl⟩))⟩) dX5_addPlain_89
        · replace c59 : kN μ 24 0 = 12 := (nI_eq (a := kN μ 24 0) (b := 12) (by omega) (by omega)).mp c59
          refine lv_iconst (v := 3) hx hb dX5_addPlain_62 (by decide) ?_
          refine lv_goto (tgt := 67) hx hb dX5_addPlain_63 (by decide) ?_
          refine m_put (C := RX5) (T := TX5) (N := 34) (v := .int 3) hx hb hts hi_X5 tyX5 tyX5_ok nmX5 hown hK hV hS 33 (p_m33 hM 3) rfl (by decide) k91 (fun _ h9 => h9) rfl (tyX5_ok 33 (by decide)) rfl rfl dX5_addPlain_67 (fun h H locs hV hS hM => ?_)
          refine lv_aload_n hx hb dX5_addPlain_70 rfl (lv_at hl 1 rfl) ?_
          refine m_get (C := RX5) (T := TX5) (N := 34) hx hb hts hi_X5 hown hK hV 33 (v := .int 3) (by have z9 := g_m33 hM; exact z9) rfl (by decide) k91 (fun _ h9 => h9) dX5_addPlain_71 ?_
          refine lv_if_ne (tgt := 88) hx hb dX5_addPlain_74 (by decide) (fun c74 => ?_) (fun c74 => (absurd c74 (by decide)))
          refine lv_iconst (v := (-1)) hx hb dX5_addPlain_88 (by decide) ?_
          exact m_iret (v := (-1)) hx hb hr hlocks hV hS (⟨_, hM, Or.inr (Or.inr (Or.inl ⟨by intro z; rw [z] at c37; exact absurd c37 (by decide), ⟨c9, c21⟩, c59, rfl⟩))⟩) dX5_addPlain_89
      · replace c37 : ((inR x0 (kN μ 9 0)).isSome) = false := bI_0.mp c37
        refine lv_iconst (v := 1) hx hb dX5_addPlain_40 (by decide) ?_
        refine lv_goto (tgt := 67) hx hb dX5_addPlain_41 (by decide) ?_
        refine m_put (C := RX5) (T := TX5) (N := 34) (v := .int 1) hx hb hts hi_X5 tyX5 tyX5_ok nmX5 hown hK hV hS 33 (p_m33 hM 1) rfl (by decide) k91 (fun _ h9 => h9) rfl (tyX5_ok 33 (by decide)) rfl rfl dX5_addPlain_67 (fun h H locs hV hS hM => ?_)
        refine lv_aload_n hx hb dX5_addPlain_70 rfl (lv_at hl 1 rfl) ?_
        refine m_get (C := RX5) (T := TX5) (N := 34) hx hb hts hi_X5 hown hK hV 33 (v := .int 1) (by have z9 := g_m33 hM; exact z9) rfl (by decide) k91 (fun _ h9 => h9) dX5_addPlain_71 ?_
        refine lv_if_ne (tgt := 88) hx hb dX5_addPlain_74 (by decide) (fun c74 => ?_) (fun c74 => (absurd c74 (by decide)))
        refine lv_iconst (v := (-1)) hx hb dX5_addPlain_88 (by decide) ?_
        exact m_iret (v := (-1)) hx hb hr hlocks hV hS (⟨_, hM, Or.inl ⟨Option.not_isSome_iff_eq_none.mp (by rw [c37]; decide), rfl⟩⟩) dX5_addPlain_89
set_option maxHeartbeats 4000000 in
set_option maxRecDepth 100000 in
theorem c_X5_addTimed {l : Launch} {D : va_G} {cs : mC} {df : Nat} {P : Nat → Prop} {h0 : mH} {B : Nat → Nat} {μ : KS} {hh : mH} (sz : Nat) (hM : DRep cs P h0 B μ hh) (x0 : Int32) (x1 : Int32) (x2 : Int32) (x3 : Int32) : Met l yX5_addTimed wsX5_addTimed ({ frames := 2, cells := 0, slots := 0, locals := 49 }) (mPre [.ref (B 100), .int x0, .int x1, .int x2, .int x3] D cs df hh sz) (va_Qi ((fun (r : Int32) (h1 : mH) => ∃ μ1 : KS, DRep cs P h0 B μ1 h1 ∧ om_addTimed μ x0 x1 x2 x3 r μ1)) (mB D hh sz) (mA hh sz)) 0 0 (mA hh sz) := by
  refine Met.ofW (cc := cX5_addTimed) (maxL := 7) (ret := (some .int)) (by decide) rfl ?_
  intro p e s m args below meth c s₁ B0 hml hv
  obtain ⟨hargs, hsz, hV, hE⟩ := hv
  subst hsz
  have hx := B0.exec
  have hb := B0.bytes
  have hr := B0.returns
  have hlocks := B0.notSynchronized
  have hts := atoms_spec (ws := wsX5_addTimed) B0.pre
  have hown : s.vm.findClass RX5 = some m.cls := findClass_of_methodNamed B0.named
  have hK := hE.1.1
  have hA : ∀ q : Nat, s.heap.size ≤ q → mA hh s.heap.size q := mA.top
  have hS : va_S (mA hh s.heap.size) s.heap s.heap [] := va_S.rf
  have kk123 : (Cond.constantLong RX5 123 (9)).before args s = true := hts _ (by decide +kernel)
  have k91 : (Cond.fieldLink RX5 91 "TaskKernelModel" "thrown" "I").before args s = true := hts _ (by decide +kernel)
  have hi_X5 : ∀ w ∈ u_ws RX5 TX5 34, w ∈ wsX5_addTimed := by decide +kernel
  have kk142 : (Cond.constantLong RX5 142 (2)).before args s = true := hts _ (by decide +kernel)
  have kk144 : (Cond.constantLong RX5 144 (60)).before args s = true := hts _ (by decide +kernel)
  have kk146 : (Cond.constantLong RX5 146 (40)).before args s = true := hts _ (by decide +kernel)
  have k117 : (Cond.fieldLink RX5 117 "TaskKernelModel" "tasks" "I").before args s = true := hts _ (by decide +kernel)
  have hl := lv_entry ([.ref (B 100), .int x0, .int x1, .int x2, .int x3]) (n := 7) (by first | exact Nat.le_of_ble_eq_true rfl | simp [lg_sl, rf_cat, ct_ref, ct_int, ct_null, ct_long])
  have hent := lg_entry_eq m ([.ref (B 100), .int x0, .int x1, .int x2, .int x3]) 7
  rw [← hargs] at hent
  rw [hent]
  generalize (lg_sl ([.ref (B 100), .int x0, .int x1, .int x2, .int x3]) ++ List.replicate (7 - (lg_sl ([.ref (B 100), .int x0, .int x1, .int x2, .int x3])).length) Slot.unset).toArray = ls at hl ⊢
  replace hl : lv_has ls 7 [(0, .ref (B 100)), (1, .int x0), (2, .int x1), (3, .int x2), (4, .int x3)] := hl
  have hwf := hM.wf
  obtain ⟨⟨y0, y1, y2, y3⟩, y4, y5, y6, y7⟩ := hwf
  refine lv_iload_n hx hb dX5_addTimed_0 rfl (lv_at hl 2 rfl) ?_
  refine lv_i2l (v := (x1).toInt64) hx hb dX5_addTimed_1 rfl ?_
  refine lv_lconst (v := 1) hx hb dX5_addTimed_2 (by decide) ?_
  refine lv_ldc2 (v := 9) hx hb hown kk123 dX5_addTimed_3 ?_
  refine m_calli (va_runS (As := [.long ((x1).toInt64), .long 1, .long 9]) (rest := []) ⟨hx, hb, hml, hown, hts⟩ (c_X5_in (l := l) (D := D) (cs := cs) (df := df) (hh := hh) (s.heap.size) ((x1).toInt64) 1 9) (va_cwS 3 hts gX5_addTimed_X5_in rfl rfl rfl (by decide +kernel) ⟨by decide, by decide⟩) (m_preS hE hV hS hA) rfl rfl hl.1 rfl (lv_room (by first | exact Nat.le_of_ble_eq_true rfl | simp [rf_cat, ct_ref, ct_int, ct_null, ct_long])) dX5_addTimed_6 ⟨by decide, by decide⟩) hV hS hA (fun r h1 H locs hV hS hp _ => ?_)
  obtain ⟨e1, e2⟩ := hp
  subst e2
  rw [e1] at hV; clear e1
  refine m_topi (y := bI (rg x1 1 9)) (congrArg bI (inL_rg (by decide) (by decide))) ?_
  refine lv_if_eq (tgt := 43) hx hb dX5_addTimed_9 (by decide) (fun c9 => ?_) (fun c9 => ?_)
  · replace c9 : (rg x1 1 9) = false := bI_0.mp c9
    refine lv_iconst (v := 0) hx hb dX5_addTimed_43 (by decide) ?_
    refine lv_istore (lv' := [(5, .int 0), (0, .ref (B 100)), (1, .int x0), (2, .int x1), (3, .int x2), (4, .int x3)]) hx hb dX5_addTimed_44 hl (by decide) rfl (fun ls hl => ?_)
    refine lv_aload_n hx hb dX5_addTimed_46 rfl (lv_at hl 1 rfl) ?_
    refine lv_iload_n hx hb dX5_addTimed_47 rfl (lv_at hl 2 rfl) ?_
    refine m_calli (va_runV (As := [.int x0]) (rest := []) ⟨hx, hb, hml, hown, hts⟩ (c_X5_isGroup (l := l) (H.size) hM x0) (cwV 1 hts gX5_addTimed_X5_isGroup rfl rfl rfl (by decide +kernel) ⟨by decide, by decide⟩) (m_preV (r := (RX5, TX5, 34)) hE hV hS hA (hM.at 100 (by decide)) rfl) rfl rfl hl.1 rfl (lv_room (by first | exact Nat.le_of_ble_eq_true rfl | simp [rf_cat, ct_ref, ct_int, ct_null, ct_long])) dX5_addTimed_48 ⟨by decide, by decide⟩) hV hS hA (fun r h1 H locs hV hS hp _ => ?_)
    obtain ⟨e1, e2⟩ := hp
    subst e2
    rw [e1] at hV; clear e1
    refine lv_if_eq (tgt := 59) hx hb dX5_addTimed_51 (by decide) (fun c51 => ?_) (fun c51 => ?_)
    · replace c51 : ((inR x0 (kN μ 9 0)).isSome) = false := bI_0.mp c51
      refine lv_aload_n hx hb dX5_addTimed_59 rfl (lv_at hl 1 rfl) ?_
      refine lv_aload_n hx hb dX5_addTimed_60 rfl (lv_at hl 1 rfl) ?_
      refine lv_iload_n hx hb dX5_addTimed_61 rfl (lv_at hl 2 rfl) ?_
      refine m_calli (va_runV (As := [.int x0]) (rest := [.ref (B 100)]) ⟨hx, hb, hml, hown, hts⟩ (c_X5_isGroup (l := l) (H.size) hM x0) (cwV 1 hts gX5_addTimed_X5_isGroup rfl rfl rfl (by decide +kernel) ⟨by decide, by decide⟩) (m_preV (r := (RX5, TX5, 34)) hE hV hS hA (hM.at 100 (by decide)) rfl) rfl rfl hl.1 rfl (lv_room (by first | exact Nat.le_of_ble_eq_true rfl | simp [rf_cat, ct_ref, ct_int, ct_null, ct_long])) dX5_addTimed_62 ⟨by decide, by decide⟩) hV hS hA (fun r h1 H locs hV hS hp _ => ?_)
      obtain ⟨e1, e2⟩ := hp
      subst e2
      rw [e1] at hV; clear e1
      refine lv_if_ne (tgt := 72) hx hb dX5_addTimed_65 (by decide) (fun c65 => absurd (by rw [c51]; rfl) c65) (fun _ => ?_)
      refine lv_iconst (v := 1) hx hb dX5_addTimed_68 (by decide) ?_
      refine lv_goto (tgt := 73) hx hb dX5_addTimed_69 (by decide) ?_
      refine m_put (C := RX5) (T := TX5) (N := 34) (v := .int 1) hx hb hts hi_X5 tyX5 tyX5_ok nmX5 hown hK hV hS 33 (p_m33 hM 1) rfl (by decide) k91 (fun _ h9 => h9) rfl (tyX5_ok 33 (by decide)) rfl rfl dX5_addTimed_73 (fun h H locs hV hS hM => ?_)
      refine lv_iconst (v := (-1)) hx hb dX5_addTimed_76 (by decide) ?_
      exact m_iret (v := (-1)) hx hb hr hlocks hV hS (⟨_, hM, Or.inl ⟨Option.not_isSome_iff_eq_none.mp (by rw [c51]; decide), rfl⟩⟩) dX5_addTimed_77
    · replace c51 : ((inR x0 (kN μ 9 0)).isSome) = true := bI_1.mp c51
      refine lv_iload hx hb dX5_addTimed_54 (lv_at hl 0 rfl) ?_
      refine lv_if_ne (tgt := 78) hx hb dX5_addTimed_56 (by decide) (fun c56 => (absurd (by decide) c56)) (fun c56 => ?_)
      refine lv_aload_n hx hb dX5_addTimed_59 rfl (lv_at hl 1 rfl) ?_
      refine lv_aload_n hx hb dX5_addTimed_60 rfl (lv_at hl 1 rfl) ?_
      refine lv_iload_n hx hb dX5_addTimed_61 rfl (lv_at hl 2 rfl) ?_
      refine m_calli (va_runV (As := [.int x0]) (rest := [.ref (B 100)]) ⟨hx, hb, hml, hown, hts⟩ (c_X5_isGroup (l := l) (H.size) hM x0) (cwV 1 hts gX5_addTimed_X5_isGroup rfl rfl rfl (by decide +kernel) ⟨by decide, by decide⟩) (m_preV (r := (RX5, TX5, 34)) hE hV hS hA (hM.at 100 (by decide)) rfl) rfl rfl hl.1 rfl (lv_room (by first | exact Nat.le_of_ble_eq_true rfl | simp [rf_cat, ct_ref, ct_int, ct_null, ct_long])) dX5_addTimed_62 ⟨by decide, by decide⟩) hV hS hA (fun r h1 H locs hV hS hp _ => ?_)
      obtain ⟨e1, e2⟩ := hp
      subst e2
      rw [e1] at hV; clear e1
      refine lv_if_ne (tgt := 72) hx hb dX5_addTimed_65 (by decide) (fun _ => ?_) (fun c65 => absurd c65 (by rw [c51]; decide))
      refine lv_iconst (v := 2) hx hb dX5_addTimed_72 (by decide) ?_
      refine m_put (C := RX5) (T := TX5) (N := 34) (v := .int 2) hx hb hts hi_X5 tyX5 tyX5_ok nmX5 hown hK hV hS 33 (p_m33 hM 2) rfl (by decide) k91 (fun _ h9 => h9) rfl (tyX5_ok 33 (by decide)) rfl rfl dX5_addTimed_73 (fun h H locs hV hS hM => ?_)
      refine lv_iconst (v := (-1)) hx hb dX5_addTimed_76 (by decide) ?_
      exact m_iret (v := (-1)) hx hb hr hlocks hV hS (⟨_, hM, Or.inr (Or.inl ⟨by intro z; rw [z] at c51; exact absurd c51 (by decide), (fun z => absurd z.1 (by rw [c9]; decide)), rfl⟩)⟩) dX5_addTimed_77
  · replace c9 : (rg x1 1 9) = true := bI_1.mp c9
    refine lv_iload_n hx hb dX5_addTimed_12 rfl (lv_at hl 3 rfl) ?_
    refine lv_i2l (v := (x2).toInt64) hx hb dX5_addTimed_13 rfl ?_
    refine lv_ldc2 (v := 2) hx hb hown kk142 dX5_addTimed_14 ?_
    refine lv_ldc2 (v := 60) hx hb hown kk144 dX5_addTimed_17 ?_
    refine m_calli (va_runS (As := [.long ((x2).toInt64), .long 2, .long 60]) (rest := []) ⟨hx, hb, hml, hown, hts⟩ (c_X5_in (l := l) (D := D) (cs := cs) (df := df) (hh := hh) (H.size) ((x2).toInt64) 2 60) (va_cwS 3 hts gX5_addTimed_X5_in rfl rfl rfl (by decide +kernel) ⟨by decide, by decide⟩) (m_preS hE hV hS hA) rfl rfl hl.1 rfl (lv_room (by first | exact Nat.le_of_ble_eq_true rfl | simp [rf_cat, ct_ref, ct_int, ct_null, ct_long])) dX5_addTimed_20 ⟨by decide, by decide⟩) hV hS hA (fun r h1 H locs hV hS hp _ => ?_)
    obtain ⟨e1, e2⟩ := hp
    subst e2
    rw [e1] at hV; clear e1
    refine m_topi (y := bI (rg x2 2 60)) (congrArg bI (inL_rg (by decide) (by decide))) ?_
    refine lv_if_eq (tgt := 43) hx hb dX5_addTimed_23 (by decide) (fun c23 => ?_) (fun c23 => ?_)
    · replace c23 : (rg x2 2 60) = false := bI_0.mp c23
      refine lv_iconst (v := 0) hx hb dX5_addTimed_43 (by decide) ?_
      refine lv_istore (lv' := [(5, .int 0), (0, .ref (B 100)), (1, .int x0), (2, .int x1), (3, .int x2), (4, .int x3)]) hx hb dX5_addTimed_44 hl (by decide) rfl (fun ls hl => ?_)
      refine lv_aload_n hx hb dX5_addTimed_46 rfl (lv_at hl 1 rfl) ?_
      refine lv_iload_n hx hb dX5_addTimed_47 rfl (lv_at hl 2 rfl) ?_
      refine m_calli (va_runV (As := [.int x0]) (rest := []) ⟨hx, hb, hml, hown, hts⟩ (c_X5_isGroup (l := l) (H.size) hM x0) (cwV 1 hts gX5_addTimed_X5_isGroup rfl rfl rfl (by decide +kernel) ⟨by decide, by decide⟩) (m_preV (r := (RX5, TX5, 34)) hE hV hS hA (hM.at 100 (by decide)) rfl) rfl rfl hl.1 rfl (lv_room (by first | exact Nat.le_of_ble_eq_true rfl | simp [rf_cat, ct_ref, ct_int, ct_null, ct_long])) dX5_addTimed_48 ⟨by decide, by decide⟩) hV hS hA (fun r h1 H locs hV hS hp _ => ?_)
      obtain ⟨e1, e2⟩ := hp
      subst e2
      rw [e1] at hV; clear e1
      refine lv_if_eq (tgt := 59) hx hb dX5_addTimed_51 (by decide) (fun c51 => ?_) (fun c51 => ?_)
      · replace c51 : ((inR x0 (kN μ 9 0)).isSome) = false := bI_0.mp c51
        refine lv_aload_n hx hb dX5_addTimed_59 rfl (lv_at hl 1 rfl) ?_
        refine lv_aload_n hx hb dX5_addTimed_60 rfl (lv_at hl 1 rfl) ?_
        refine lv_iload_n hx hb dX5_addTimed_61 rfl (lv_at hl 2 rfl) ?_
        refine m_calli (va_runV (As := [.int x0]) (rest := [.ref (B 100)]) ⟨hx, hb, hml, hown, hts⟩ (c_X5_isGroup (l := l) (H.size) hM x0) (cwV 1 hts gX5_addTimed_X5_isGroup rfl rfl rfl (by decide +kernel) ⟨by decide, by decide⟩) (m_preV (r := (RX5, TX5, 34)) hE hV hS hA (hM.at 100 (by decide)) rfl) rfl rfl hl.1 rfl (lv_room (by first | exact Nat.le_of_ble_eq_true rfl | simp [rf_cat, ct_ref, ct_int, ct_null, ct_long])) dX5_addTimed_62 ⟨by decide, by decide⟩) hV hS hA (fun r h1 H locs hV hS hp _ => ?_)
        obtain ⟨e1, e2⟩ := hp
        subst e2
        rw [e1] at hV; clear e1
        refine lv_if_ne (tgt := 72) hx hb dX5_addTimed_65 (by decide) (fun c65 => absurd (by rw [c51]; rfl) c65) (fun _ => ?_)
        refine lv_iconst (v := 1) hx hb dX5_addTimed_68 (by decide) ?_
        refine lv_goto (tgt := 73) hx hb dX5_addTimed_69 (by decide) ?_
        refine m_put (C := RX5) (T := TX5) (N := 34) (v := .int 1) hx hb hts hi_X5 tyX5 tyX5_ok nmX5 hown hK hV hS 33 (p_m33 hM 1) rfl (by decide) k91 (fun _ h9 => h9) rfl (tyX5_ok 33 (by decide)) rfl rfl dX5_addTimed_73 (fun h H locs hV hS hM => ?_)
        refine lv_iconst (v := (-1)) hx hb dX5_addTimed_76 (by decide) ?_
        exact m_iret (v := (-1)) hx hb hr hlocks hV hS (⟨_, hM, Or.inl ⟨Option.not_isSome_iff_eq_none.mp (by rw [c51]; decide), rfl⟩⟩) dX5_addTimed_77
      · replace c51 : ((inR x0 (kN μ 9 0)).isSome) = true := bI_1.mp c51
        refine lv_iload hx hb dX5_addTimed_54 (lv_at hl 0 rfl) ?_
        refine lv_if_ne (tgt := 78) hx hb dX5_addTimed_56 (by decide) (fun c56 => (absurd (by decide) c56)) (fun c56 => ?_)
        refine lv_aload_n hx hb dX5_addTimed_59 rfl (lv_at hl 1 rfl) ?_
        refine lv_aload_n hx hb dX5_addTimed_60 rfl (lv_at hl 1 rfl) ?_
        refine lv_iload_n hx hb dX5_addTimed_61 rfl (lv_at hl 2 rfl) ?_
        refine m_calli (va_runV (As := [.int x0]) (rest := [.ref (B 100)]) ⟨hx, hb, hml, hown, hts⟩ (c_X5_isGroup (l := l) (H.size) hM x0) (cwV 1 hts gX5_addTimed_X5_isGroup rfl rfl rfl (by decide +kernel) ⟨by decide, by decide⟩) (m_preV (r := (RX5, TX5, 34)) hE hV hS hA (hM.at 100 (by decide)) rfl) rfl rfl hl.1 rfl (lv_room (by first | exact Nat.le_of_ble_eq_true rfl | simp [rf_cat, ct_ref, ct_int, ct_null, ct_long])) dX5_addTimed_62 ⟨by decide, by decide⟩) hV hS hA (fun r h1 H locs hV hS hp _ => ?_)
        obtain ⟨e1, e2⟩ := hp
        subst e2
        rw [e1] at hV; clear e1
        refine lv_if_ne (tgt := 72) hx hb dX5_addTimed_65 (by decide) (fun _ => ?_) (fun c65 => absurd c65 (by rw [c51]; decide))
        refine lv_iconst (v := 2) hx hb dX5_addTimed_72 (by decide) ?_
        refine m_put (C := RX5) (T := TX5) (N := 34) (v := .int 2) hx hb hts hi_X5 tyX5 tyX5_ok nmX5 hown hK hV hS 33 (p_m33 hM 2) rfl (by decide) k91 (fun _ h9 => h9) rfl (tyX5_ok 33 (by decide)) rfl rfl dX5_addTimed_73 (fun h H locs hV hS hM => ?_)
        refine lv_iconst (v := (-1)) hx hb dX5_addTimed_76 (by decide) ?_
        exact m_iret (v := (-1)) hx hb hr hlocks hV hS (⟨_, hM, Or.inr (Or.inl ⟨by intro z; rw [z] at c51; exact absurd c51 (by decide), (fun z => absurd z.2.1 (by rw [c23]; decide)), rfl⟩)⟩) dX5_addTimed_77
    · replace c23 : (rg x2 2 60) = true := bI_1.mp c23
      refine lv_iload hx hb dX5_addTimed_26 (lv_at hl 4 rfl) ?_
      refine lv_i2l (v := (x3).toInt64) hx hb dX5_addTimed_28 rfl ?_
      refine lv_lconst (v := 1) hx hb dX5_addTimed_29 (by decide) ?_
      refine lv_ldc2 (v := 40) hx hb hown kk146 dX5_addTimed_30 ?_
      refine m_calli (va_runS (As := [.long ((x3).toInt64), .long 1, .long 40]) (rest := []) ⟨hx, hb, hml, hown, hts⟩ (c_X5_in (l := l) (D := D) (cs := cs) (df := df) (hh := hh) (H.size) ((x3).toInt64) 1 40) (va_cwS 3 hts gX5_addTimed_X5_in rfl rfl rfl (by decide +kernel) ⟨by decide, by decide⟩) (m_preS hE hV hS hA) rfl rfl hl.1 rfl (lv_room (by first | exact Nat.le_of_ble_eq_true rfl | simp [rf_cat, ct_ref, ct_int, ct_null, ct_long])) dX5_addTimed_33 ⟨by decide, by decide⟩) hV hS hA (fun r h1 H locs hV hS hp _ => ?_)
      obtain ⟨e1, e2⟩ := hp
      subst e2
      rw [e1] at hV; clear e1
      refine m_topi (y := bI (rg x3 1 40)) (congrArg bI (inL_rg (by decide) (by decide))) ?_
      refine lv_if_eq (tgt := 43) hx hb dX5_addTimed_36 (by decide) (fun c36 => ?_) (fun c36 => ?_)
      · replace c36 : (rg x3 1 40) = false := bI_0.mp c36
        refine lv_iconst (v := 0) hx hb dX5_addTimed_43 (by decide) ?_
        refine lv_istore (lv' := [(5, .int 0), (0, .ref (B 100)), (1, .int x0), (2, .int x1), (3, .int x2), (4, .int x3)]) hx hb dX5_addTimed_44 hl (by decide) rfl (fun ls hl => ?_)
        refine lv_aload_n hx hb dX5_addTimed_46 rfl (lv_at hl 1 rfl) ?_
        refine lv_iload_n hx hb dX5_addTimed_47 rfl (lv_at hl 2 rfl) ?_
        refine m_calli (va_runV (As := [.int x0]) (rest := []) ⟨hx, hb, hml, hown, hts⟩ (c_X5_isGroup (l := l) (H.size) hM x0) (cwV 1 hts gX5_addTimed_X5_isGroup rfl rfl rfl (by decide +kernel) ⟨by decide, by decide⟩) (m_preV (r := (RX5, TX5, 34)) hE hV hS hA (hM.at 100 (by decide)) rfl) rfl rfl hl.1 rfl (lv_room (by first | exact Nat.le_of_ble_eq_true rfl | simp [rf_cat, ct_ref, ct_int, ct_null, ct_long])) dX5_addTimed_48 ⟨by decide, by decide⟩) hV hS hA (fun r h1 H locs hV hS hp _ => ?_)
        obtain ⟨e1, e2⟩ := hp
        subst e2
        rw [e1] at hV; clear e1
        refine lv_if_eq (tgt := 59) hx hb dX5_addTimed_51 (by decide) (fun c51 => ?_) (fun c51 => ?_)
        · replace c51 : ((inR x0 (kN μ 9 0)).isSome) = false := bI_0.mp c51
          refine lv_aload_n hx hb dX5_addTimed_59 rfl (lv_at hl 1 rfl) ?_
          refine lv_aload_n hx hb dX5_addTimed_60 rfl (lv_at hl 1 rfl) ?_
          refine lv_iload_n hx hb dX5_addTimed_61 rfl (lv_at hl 2 rfl) ?_
          refine m_calli (va_runV (As := [.int x0]) (rest := [.ref (B 100)]) ⟨hx, hb, hml, hown, hts⟩ (c_X5_isGroup (l := l) (H.size) hM x0) (cwV 1 hts gX5_addTimed_X5_isGroup rfl rfl rfl (by decide +kernel) ⟨by decide, by decide⟩) (m_preV (r := (RX5, TX5, 34)) hE hV hS hA (hM.at 100 (by decide)) rfl) rfl rfl hl.1 rfl (lv_room (by first | exact Nat.le_of_ble_eq_true rfl | simp [rf_cat, ct_ref, ct_int, ct_null, ct_long])) dX5_addTimed_62 ⟨by decide, by decide⟩) hV hS hA (fun r h1 H locs hV hS hp _ => ?_)
          obtain ⟨e1, e2⟩ := hp
          subst e2
          rw [e1] at hV; clear e1
          refine lv_if_ne (tgt := 72) hx hb dX5_addTimed_65 (by decide) (fun c65 => absurd (by rw [c51]; rfl) c65) (fun _ => ?_)
          refine lv_iconst (v := 1) hx hb dX5_addTimed_68 (by decide) ?_
          refine lv_goto (tgt := 73) hx hb dX5_addTimed_69 (by decide) ?_
          refine m_put (C := RX5) (T := TX5) (N := 34) (v := .int 1) hx hb hts hi_X5 tyX5 tyX5_ok nmX5 hown hK hV hS 33 (p_m33 hM 1) rfl (by decide) k91 (fun _ h9 => h9) rfl (tyX5_ok 33 (by decide)) rfl rfl dX5_addTimed_73 (fun h H locs hV hS hM => ?_)
          refine lv_iconst (v := (-1)) hx hb dX5_addTimed_76 (by decide) ?_
          exact m_iret (v := (-1)) hx hb hr hlocks hV hS (⟨_, hM, Or.inl ⟨Option.not_isSome_iff_eq_none.mp (by rw [c51]; decide), rfl⟩⟩) dX5_addTimed_77
        · replace c51 : ((inR x0 (kN μ 9 0)).isSome) = true := bI_1.mp c51
          refine lv_iload hx hb dX5_addTimed_54 (lv_at hl 0 rfl) ?_
          refine lv_if_ne (tgt := 78) hx hb dX5_addTimed_56 (by decide) (fun c56 => (absurd (by decide) c56)) (fun c56 => ?_)
          refine lv_aload_n hx hb dX5_addTimed_59 rfl (lv_at hl 1 rfl) ?_
          refine lv_aload_n hx hb dX5_addTimed_60 rfl (lv_at hl 1 rfl) ?_
          refine lv_iload_n hx hb dX5_addTimed_61 rfl (lv_at hl 2 rfl) ?_
          refine m_calli (va_runV (As := [.int x0]) (rest := [.ref (B 100)]) ⟨hx, hb, hml, hown, hts⟩ (c_X5_isGroup (l := l) (H.size) hM x0) (cwV 1 hts gX5_addTimed_X5_isGroup rfl rfl rfl (by decide +kernel) ⟨by decide, by decide⟩) (m_preV (r := (RX5, TX5, 34)) hE hV hS hA (hM.at 100 (by decide)) rfl) rfl rfl hl.1 rfl (lv_room (by first | exact Nat.le_of_ble_eq_true rfl | simp [rf_cat, ct_ref, ct_int, ct_null, ct_long])) dX5_addTimed_62 ⟨by decide, by decide⟩) hV hS hA (fun r h1 H locs hV hS hp _ => ?_)
          obtain ⟨e1, e2⟩ := hp
          subst e2
          rw [e1] at hV; clear e1
          refine lv_if_ne (tgt := 72) hx hb dX5_addTimed_65 (by decide) (fun _ => ?_) (fun c65 => absurd c65 (by rw [c51]; decide))
          refine lv_iconst (v := 2) hx hb dX5_addTimed_72 (by decide) ?_
          refine m_put (C := RX5) (T := TX5) (N := 34) (v := .int 2) hx hb hts hi_X5 tyX5 tyX5_ok nmX5 hown hK hV hS 33 (p_m33 hM 2) rfl (by decide) k91 (fun _ h9 => h9) rfl (tyX5_ok 33 (by decide)) rfl rfl dX5_addTimed_73 (fun h H locs hV hS hM => ?_)
          refine lv_iconst (v := (-1)) hx hb dX5_addTimed_76 (by decide) ?_
          exact m_iret (v := (-1)) hx hb hr hlocks hV hS (⟨_, hM, Or.inr (Or.inl ⟨by intro z; rw [z] at c51; exact absurd c51 (by decide), (fun z => absurd z.2.2 (by rw [c36]; decide)), rfl⟩)⟩) dX5_addTimed_77
      · replace c36 : (rg x3 1 40) = true := bI_1.mp c36
        refine lv_iconst (v := 1) hx hb dX5_addTimed_39 (by decide) ?_
        refine lv_goto (tgt := 44) hx hb dX5_addTimed_40 (by decide) ?_
        refine lv_istore (lv' := [(5, .int 1), (0, .ref (B 100)), (1, .int x0), (2, .int x1), (3, .int x2), (4, .int x3)]) hx hb dX5_addTimed_44 hl (by decide) rfl (fun ls hl => ?_)
        refine lv_aload_n hx hb dX5_addTimed_46 rfl (lv_at hl 1 rfl) ?_
        refine lv_iload_n hx hb dX5_addTimed_47 rfl (lv_at hl 2 rfl) ?_
        refine m_calli (va_runV (As := [.int x0]) (rest := []) ⟨hx, hb, hml, hown, hts⟩ (c_X5_isGroup (l := l) (H.size) hM x0) (cwV 1 hts gX5_addTimed_X5_isGroup rfl rfl rfl (by decide +kernel) ⟨by decide, by decide⟩) (m_preV (r := (RX5, TX5, 34)) hE hV hS hA (hM.at 100 (by decide)) rfl) rfl rfl hl.1 rfl (lv_room (by first | exact Nat.le_of_ble_eq_true rfl | simp [rf_cat, ct_ref, ct_int, ct_null, ct_long])) dX5_addTimed_48 ⟨by decide, by decide⟩) hV hS hA (fun r h1 H locs hV hS hp _ => ?_)
        obtain ⟨e1, e2⟩ := hp
        subst e2
        rw [e1] at hV; clear e1
        refine lv_if_eq (tgt := 59) hx hb dX5_addTimed_51 (by decide) (fun c51 => ?_) (fun c51 => ?_)
        · replace c51 : ((inR x0 (kN μ 9 0)).isSome) = false := bI_0.mp c51
          refine lv_aload_n hx hb dX5_addTimed_59 rfl (lv_at hl 1 rfl) ?_
          refine lv_aload_n hx hb dX5_addTimed_60 rfl (lv_at hl 1 rfl) ?_
          refine lv_iload_n hx hb dX5_addTimed_61 rfl (lv_at hl 2 rfl) ?_
          refine m_calli (va_runV (As := [.int x0]) (rest := [.ref (B 100)]) ⟨hx, hb, hml, hown, hts⟩ (c_X5_isGroup (l := l) (H.size) hM x0) (cwV 1 hts gX5_addTimed_X5_isGroup rfl rfl rfl (by decide +kernel) ⟨by decide, by decide⟩) (m_preV (r := (RX5, TX5, 34)) hE hV hS hA (hM.at 100 (by decide)) rfl) rfl rfl hl.1 rfl (lv_room (by first | exact Nat.le_of_ble_eq_true rfl | simp [rf_cat, ct_ref, ct_int, ct_null, ct_long])) dX5_addTimed_62 ⟨by decide, by decide⟩) hV hS hA (fun r h1 H locs hV hS hp _ => ?_)
          obtain ⟨e1, e2⟩ := hp
          subst e2
          rw [e1] at hV; clear e1
          refine lv_if_ne (tgt := 72) hx hb dX5_addTimed_65 (by decide) (fun c65 => absurd (by rw [c51]; rfl) c65) (fun _ => ?_)
          refine lv_iconst (v := 1) hx hb dX5_addTimed_68 (by decide) ?_
          refine lv_goto (tgt := 73) hx hb dX5_addTimed_69 (by decide) ?_
          refine m_put (C := RX5) (T := TX5) (N := 34) (v := .int 1) hx hb hts hi_X5 tyX5 tyX5_ok nmX5 hown hK hV hS 33 (p_m33 hM 1) rfl (by decide) k91 (fun _ h9 => h9) rfl (tyX5_ok 33 (by decide)) rfl rfl dX5_addTimed_73 (fun h H locs hV hS hM => ?_)
          refine lv_iconst (v := (-1)) hx hb dX5_addTimed_76 (by decide) ?_
          exact m_iret (v := (-1)) hx hb hr hlocks hV hS (⟨_, hM, Or.inl ⟨Option.not_isSome_iff_eq_none.mp (by rw [c51]; decide), rfl⟩⟩) dX5_addTimed_77
        · replace c51 : ((inR x0 (kN μ 9 0)).isSome) = true := bI_1.mp c51
          refine lv_iload hx hb dX5_addTimed_54 (lv_at hl 0 rfl) ?_
          refine lv_if_ne (tgt := 78) hx hb dX5_addTimed_56 (by decide) (fun c56 => ?_) (fun c56 => (absurd c56 (by decide)))
          refine lv_aload_n hx hb dX5_addTimed_78 rfl (lv_at hl 1 rfl) ?_
          refine m_calli (va_runV (As := []) (rest := []) ⟨hx, hb, hml, hown, hts⟩ (c_X5_shares (l := l) (H.size) hM ) (cwV 0 hts gX5_addTimed_X5_shares rfl rfl rfl (by decide +kernel) ⟨by decide, by decide⟩) (m_preV (r := (RX5, TX5, 34)) hE hV hS hA (hM.at 100 (by decide)) rfl) rfl rfl hl.1 rfl (lv_room (by first | exact Nat.le_of_ble_eq_true rfl | simp [rf_cat, ct_ref, ct_int, ct_null, ct_long])) dX5_addTimed_79 ⟨by decide, by decide⟩) hV hS hA (fun r h1 H locs hV hS hp _ => ?_)
          obtain ⟨e1, e2⟩ := hp
          subst e2
          rw [e1] at hV; clear e1
          refine lv_iload hx hb dX5_addTimed_82 (lv_at hl 5 rfl) ?_
          refine lv_iload_n hx hb dX5_addTimed_84 rfl (lv_at hl 4 rfl) ?_
          refine m_calli (va_runS (As := [.int x3, .int x2]) (rest := [.int (shsM μ)]) ⟨hx, hb, hml, hown, hts⟩ (c_X5_share (l := l) (D := D) (cs := cs) (df := df) (hh := hh) (H.size) x3 x2 (fun z => by rw [z] at c23; exact absurd c23 (by decide))) (va_cwS 2 hts gX5_addTimed_X5_share rfl rfl rfl (by decide +kernel) ⟨by decide, by decide⟩) (m_preS hE hV hS hA) rfl rfl hl.1 rfl (lv_room (by first | exact Nat.le_of_ble_eq_true rfl | simp [rf_cat, ct_ref, ct_int, ct_null, ct_long])) dX5_addTimed_85 ⟨by decide, by decide⟩) hV hS hA (fun r h1 H locs hV hS hp _ => ?_)
          obtain ⟨e1, e2⟩ := hp
          subst e2
          rw [e1] at hV; clear e1
          refine lv_iadd hx hb dX5_addTimed_88 ?_
          refine lv_sipush (v := 1000) hx hb dX5_addTimed_89 (by decide) ?_
          refine lv_aload_n hx hb dX5_addTimed_92 rfl (lv_at hl 1 rfl) ?_
          refine m_calli (va_runV (As := []) (rest := [.int 1000, .int ((shsM μ) + (shM x3 x2))]) ⟨hx, hb, hml, hown, hts⟩ (c_X5_promised (l := l) (H.size) hM ) (cwV 0 hts gX5_addTimed_X5_promised rfl rfl rfl (by decide +kernel) ⟨by decide, by decide⟩) (m_preV (r := (RX5, TX5, 34)) hE hV hS hA (hM.at 100 (by decide)) rfl) rfl rfl hl.1 rfl (lv_room (by first | exact Nat.le_of_ble_eq_true rfl | simp [rf_cat, ct_ref, ct_int, ct_null, ct_long])) dX5_addTimed_93 ⟨by decide, by decide⟩) hV hS hA (fun r h1 H locs hV hS hp _ => ?_)
          obtain ⟨e1, e2⟩ := hp
          subst e2
          rw [e1] at hV; clear e1
          refine lv_imul hx hb dX5_addTimed_96 ?_
          refine lv_icmp_gt (tgt := 104) hx hb dX5_addTimed_97 (by decide) (fun c97 => ?_) (fun c97 => ?_)
          · refine lv_iconst (v := 0) hx hb dX5_addTimed_104 (by decide) ?_
            refine lv_istore (lv' := [(6, .int 0), (5, .int 1), (0, .ref (B 100)), (1, .int x0), (2, .int x1), (3, .int x2), (4, .int x3)]) hx hb dX5_addTimed_105 hl (by decide) rfl (fun ls hl => ?_)
            refine lv_aload_n hx hb dX5_addTimed_107 rfl (lv_at hl 2 rfl) ?_
            refine lv_iload hx hb dX5_addTimed_108 (lv_at hl 0 rfl) ?_
            refine lv_if_ne (tgt := 117) hx hb dX5_addTimed_110 (by decide) (fun c110 => (absurd (by decide) c110)) (fun c110 => ?_)
            refine lv_iconst (v := 3) hx hb dX5_addTimed_113 (by decide) ?_
            refine lv_goto (tgt := 131) hx hb dX5_addTimed_114 (by decide) ?_
            refine m_put (C := RX5) (T := TX5) (N := 34) (v := .int 3) hx hb hts hi_X5 tyX5 tyX5_ok nmX5 hown hK hV hS 33 (p_m33 hM 3) rfl (by decide) k91 (fun _ h9 => h9) rfl (tyX5_ok 33 (by decide)) rfl rfl dX5_addTimed_131 (fun h H locs hV hS hM => ?_)
            refine lv_aload_n hx hb dX5_addTimed_134 rfl (lv_at hl 2 rfl) ?_
            refine m_get (C := RX5) (T := TX5) (N := 34) hx hb hts hi_X5 hown hK hV 33 (v := .int 3) (by have z9 := g_m33 hM; exact z9) rfl (by decide) k91 (fun _ h9 => h9) dX5_addTimed_135 ?_
            refine lv_if_ne (tgt := 153) hx hb dX5_addTimed_138 (by decide) (fun c138 => ?_) (fun c138 => (absurd c138 (by decide)))
            refine lv_iconst (v := (-1)) hx hb dX5_addTimed_153 (by decide) ?_
            exact m_iret (v := (-1)) hx hb hr hlocks hV hS (⟨_, hM, Or.inr (Or.inr (Or.inl ⟨by intro z; rw [z] at c51; exact absurd c51 (by decide), ⟨c9, c23, c36⟩, c97, rfl⟩))⟩) dX5_addTimed_154
          · refine lv_iconst (v := 1) hx hb dX5_addTimed_100 (by decide) ?_
            refine lv_goto (tgt := 105) hx hb dX5_addTimed_101 (by decide) ?_
            refine lv_istore (lv' := [(6, .int 1), (5, .int 1), (0, .ref (B 100)), (1, .int x0), (2, .int x1), (3, .int x2), (4, .int x3)]) hx hb dX5_addTimed_105 hl (by decide) rfl (fun ls hl => ?_)
            refine lv_aload_n hx hb dX5_addTimed_107 rfl (lv_at hl 2 rfl) ?_
            refine lv_iload hx hb dX5_addTimed_108 (lv_at hl 0 rfl) ?_
            refine lv_if_ne (tgt := 117) hx hb dX5_addTimed_110 (by decide) (fun c110 => ?_) (fun c110 => (absurd c110 (by decide)))
            refine lv_aload_n hx hb dX5_addTimed_117 rfl (lv_at hl 2 rfl) ?_
            refine m_get (C := RX5) (T := TX5) (N := 34) hx hb hts hi_X5 hown hK hV 24 (v := .int (nI (kN μ 24 0))) (by have z9 := g_m24 hM; exact z9) rfl (by decide) k117 (fun _ h9 => h9) dX5_addTimed_118 ?_
            refine lv_bipush (v := 12) hx hb dX5_addTimed_121 (by decide) ?_
            refine lv_icmp_ne (tgt := 130) hx hb dX5_addTimed_123 (by decide) (fun c123 => ?_) (fun c123 => ?_)
            · replace c123 : ¬ kN μ 24 0 = 12 := fun q9 => c123 ((nI_eq (a := kN μ 24 0) (b := 12) (by omega) (by omega)).mpr q9)
              refine lv_iconst (v := 0) hx hb dX5_addTimed_130 (by decide) ?_
              refine m_put (C := RX5) (T := TX5) (N := 34) (v := .int 0) hx hb hts hi_X5 tyX5 tyX5_ok nmX5 hown hK hV hS 33 (p_m33 hM 0) rfl (by decide) k91 (fun _ h9 => h9) rfl (tyX5_ok 33 (by decide)) rfl rfl dX5_addTimed_131 (fun h H locs hV hS hM => ?_)
              refine lv_aload_n hx hb dX5_addTimed_134 rfl (lv_at hl 2 rfl) ?_
              refine m_get (C := RX5) (T := TX5) (N := 34) hx hb hts hi_X5 hown hK hV 33 (v := .int 0) (by have z9 := g_m33 hM; exact z9) rfl (by decide) k91 (fun _ h9 => h9) dX5_addTimed_135 ?_
              refine lv_if_ne (tgt := 153) hx hb dX5_addTimed_138 (by decide) (fun c138 => (absurd (by decide) c138)) (fun c138 => ?_)
              obtain ⟨t, ht⟩ := Option.isSome_iff_exists.mp c51
              obtain ⟨rfl, bt⟩ := inR_some ht
              refine lv_aload_n hx hb dX5_addTimed_141 rfl (lv_at hl 2 rfl) ?_
              refine lv_iload_n hx hb dX5_addTimed_142 rfl (lv_at hl 3 rfl) ?_
              refine lv_iload_n hx hb dX5_addTimed_143 rfl (lv_at hl 4 rfl) ?_
              refine lv_iload hx hb dX5_addTimed_144 (lv_at hl 6 rfl) ?_
              refine lv_iload_n hx hb dX5_addTimed_146 rfl (lv_at hl 5 rfl) ?_
              refine m_calli (va_runV (As := [.int (nI t), .int x1, .int x3, .int x2]) (rest := []) ⟨hx, hb, hml, hown, hts⟩ (c_X5_adds (l := l) (H.size) hM t x1 x3 x2 bt (show kN μ 24 0 < 12 by omega)) (cwV 4 hts gX5_addTimed_X5_adds rfl rfl rfl (by decide +kernel) ⟨by decide, by decide⟩) (m_preV (r := (RX5, TX5, 34)) hE hV hS hA (hM.at 100 (by decide)) rfl) rfl rfl hl.1 rfl (lv_room (by first | exact Nat.le_of_ble_eq_true rfl | simp [rf_cat, ct_ref, ct_int, ct_null, ct_long])) dX5_addTimed_147 ⟨by decide, by decide⟩) hV hS hA (fun r h H locs hV hS hp _ => ?_)
              obtain ⟨hM, e2⟩ := hp
              subst e2
              refine lv_goto (tgt := 154) hx hb dX5_addTimed_150 (by decide) ?_
              exact m_iret (v := nI (kN (sI μ 33 (va_up (kI μ 33) 0 0)) 24 0)) hx hb hr hlocks hV hS (⟨_, hM, Or.inr (Or.inr (Or.inr (Or.inr ⟨t, ht, ⟨c9, c23, c36⟩, c97, c123, rfl, rfl⟩)))⟩) dX5_addTimed_154
            · replace c123 : kN μ 24 0 = 12 := (nI_eq (a := kN μ 24 0) (b := 12) (by omega) (by omega)).mp c123
              refine lv_iconst (v := 4) hx hb dX5_addTimed_126 (by decide) ?_
              refine lv_goto (tgt := 131) hx hb dX5_addTimed_127 (by decide) ?_
              refine m_put (C := RX5) (T := TX5) (N := 34) (v := .int 4) hx hb hts hi_X5 tyX5 tyX5_ok nmX5 hown hK hV hS 33 (p_m33 hM 4) rfl (by decide) k91 (fun _ h9 => h9) rfl (tyX5_ok 33 (by decide)) rfl rfl dX5_addTimed_131 (fun h H locs hV hS hM => ?_)
              refine lv_aload_n hx hb dX5_addTimed_134 rfl (lv_at hl 2 rfl) ?_
              refine m_get (C := RX5) (T := TX5) (N := 34) hx hb hts hi_X5 hown hK hV 33 (v := .int 4) (by have z9 := g_m33 hM; exact z9) rfl (by decide) k91 (fun _ h9 => h9) dX5_addTimed_135 ?_
              refine lv_if_ne (tgt := 153) hx hb dX5_addTimed_138 (by decide) (fun c138 => ?_) (fun c138 => (absurd c138 (by decide)))
              refine lv_iconst (v := (-1)) hx hb dX5_addTimed_153 (by decide) ?_
              exact m_iret (v := (-1)) hx hb hr hlocks hV hS (⟨_, hM, Or.inr (Or.inr (Or.inr (Or.inl ⟨by intro z; rw [z] at c51; exact absurd c51 (by decide), ⟨c9, c23, c36⟩, c97, c123, rfl⟩)))⟩) dX5_addTimed_154
set_option maxHeartbeats 4000000 in
set_option maxRecDepth 100000 in
theorem c_X5_deadlineOf {l : Launch} {D : va_G} {cs : mC} {df : Nat} {P : Nat → Prop} {h0 : mH} {B : Nat → Nat} {μ : KS} {hh : mH} (sz : Nat) (hM : DRep cs P h0 B μ hh) (x0 : Int32) : Met l yX5_deadlineOf wsX5_deadlineOf ({ frames := 2, cells := 0, slots := 0, locals := 46 }) (mPre [.ref (B 100), .int x0] D cs df hh sz) (va_Qi ((fun (r : Int32) (h1 : mH) => ∃ μ1 : KS, DRep cs P h0 B μ1 h1 ∧ om_deadlineOf μ x0 r μ1)) (mB D hh sz) (mA hh sz)) 0 0 (mA hh sz) := by
  refine Met.ofW (cc := cX5_deadlineOf) (maxL := 2) (ret := (some .int)) (by decide) rfl ?_
  intro p e s m args below meth c s₁ B0 hml hv
  obtain ⟨hargs, hsz, hV, hE⟩ := hv
  subst hsz
  have hx := B0.exec
  have hb := B0.bytes
  have hr := B0.returns
  have hlocks := B0.notSynchronized
  have hts := atoms_spec (ws := wsX5_deadlineOf) B0.pre
  have hown : s.vm.findClass RX5 = some m.cls := findClass_of_methodNamed B0.named
  have hK := hE.1.1
  have hA : ∀ q : Nat, s.heap.size ≤ q → mA hh s.heap.size q := mA.top
  have hS : va_S (mA hh s.heap.size) s.heap s.heap [] := va_S.rf
  have hi_X5 : ∀ w ∈ u_ws RX5 TX5 34, w ∈ wsX5_deadlineOf := by decide +kernel
  have k48 : (Cond.fieldLink RX5 48 "TaskKernelModel" "periods" "[I").before args s = true := hts _ (by decide +kernel)
  have k91 : (Cond.fieldLink RX5 91 "TaskKernelModel" "thrown" "I").before args s = true := hts _ (by decide +kernel)
  have k54 : (Cond.fieldLink RX5 54 "TaskKernelModel" "deadlines" "[I").before args s = true := hts _ (by decide +kernel)
  have hl := lv_entry ([.ref (B 100), .int x0]) (n := 2) (by first | exact Nat.le_of_ble_eq_true rfl | simp [lg_sl, rf_cat, ct_ref, ct_int, ct_null, ct_long])
  have hent := lg_entry_eq m ([.ref (B 100), .int x0]) 2
  rw [← hargs] at hent
  rw [hent]
  generalize (lg_sl ([.ref (B 100), .int x0]) ++ List.replicate (2 - (lg_sl ([.ref (B 100), .int x0])).length) Slot.unset).toArray = ls at hl ⊢
  replace hl : lv_has ls 2 [(0, .ref (B 100)), (1, .int x0)] := hl
  have hwf := hM.wf
  obtain ⟨⟨y0, y1, y2, y3⟩, y4, y5, y6, y7⟩ := hwf
  refine lv_aload_n hx hb dX5_deadlineOf_0 rfl (lv_at hl 0 rfl) ?_
  refine lv_aload_n hx hb dX5_deadlineOf_1 rfl (lv_at hl 0 rfl) ?_
  refine lv_iload_n hx hb dX5_deadlineOf_2 rfl (lv_at hl 1 rfl) ?_
  refine m_calli (va_runV (As := [.int x0]) (rest := [.ref (B 100)]) ⟨hx, hb, hml, hown, hts⟩ (c_X5_isTask (l := l) (s.heap.size) hM x0) (cwV 1 hts gX5_deadlineOf_X5_isTask rfl rfl rfl (by decide +kernel) ⟨by decide, by decide⟩) (m_preV (r := (RX5, TX5, 34)) hE hV hS hA (hM.at 100 (by decide)) rfl) rfl rfl hl.1 rfl (lv_room (by first | exact Nat.le_of_ble_eq_true rfl | simp [rf_cat, ct_ref, ct_int, ct_null, ct_long])) dX5_deadlineOf_3 ⟨by decide, by decide⟩) hV hS hA (fun r h1 H locs hV hS hp _ => ?_)
  obtain ⟨e1, e2⟩ := hp
  subst e2
  rw [e1] at hV; clear e1
  refine lv_if_ne (tgt := 13) hx hb dX5_deadlineOf_6 (by decide) (fun c6 => ?_) (fun c6 => ?_)
  · replace c6 : ((inR x0 (kN μ 24 0)).isSome) = true := bI_1.mp c6
    obtain ⟨t, ht⟩ := Option.isSome_iff_exists.mp c6
    obtain ⟨rfl, bt⟩ := inR_some ht
    refine lv_aload_n hx hb dX5_deadlineOf_13 rfl (lv_at hl 0 rfl) ?_
    refine m_get (C := RX5) (T := TX5) (N := 34) hx hb hts hi_X5 hown hK hV 14 (v := .ref (B 14)) (g_m14 hM) rfl (by decide) k48 (fun _ h9 => h9) dX5_deadlineOf_14 ?_
    refine lv_iload_n hx hb dX5_deadlineOf_17 rfl (lv_at hl 1 rfl) ?_
    refine m_iald hx hb hK hV 0 (i := nI t) (x := (kI μ 14 t)) (a_m14 hM) rfl (vp_in_nI (by omega) (by omega)) (by rw [nI_clamp (by omega)] <;> first | rfl | (show oI (va_up _ _ _ _) = _; rw [vu_s]) | (show va_up _ _ _ _ = _; rw [vu_s])) dX5_deadlineOf_18 ?_
    refine lv_if_ne (tgt := 26) hx hb dX5_deadlineOf_19 (by decide) (fun c19 => ?_) (fun c19 => ?_)
    · refine lv_iconst (v := 0) hx hb dX5_deadlineOf_26 (by decide) ?_
      refine m_put (C := RX5) (T := TX5) (N := 34) (v := .int 0) hx hb hts hi_X5 tyX5 tyX5_ok nmX5 hown hK hV hS 33 (p_m33 hM 0) rfl (by decide) k91 (fun _ h9 => h9) rfl (tyX5_ok 33 (by decide)) rfl rfl dX5_deadlineOf_27 (fun h H locs hV hS hM => ?_)
      refine lv_aload_n hx hb dX5_deadlineOf_30 rfl (lv_at hl 0 rfl) ?_
      refine m_get (C := RX5) (T := TX5) (N := 34) hx hb hts hi_X5 hown hK hV 33 (v := .int 0) (by have z9 := g_m33 hM; exact z9) rfl (by decide) k91 (fun _ h9 => h9) dX5_deadlineOf_31 ?_
      refine lv_if_ne (tgt := 46) hx hb dX5_deadlineOf_34 (by decide) (fun c34 => (absurd (by decide) c34)) (fun c34 => ?_)
      refine lv_aload_n hx hb dX5_deadlineOf_37 rfl (lv_at hl 0 rfl) ?_
      refine m_get (C := RX5) (T := TX5) (N := 34) hx hb hts hi_X5 hown hK hV 16 (v := .ref (B 16)) (g_m16 hM) rfl (by decide) k54 (fun _ h9 => h9) dX5_deadlineOf_38 ?_
      refine lv_iload_n hx hb dX5_deadlineOf_41 rfl (lv_at hl 1 rfl) ?_
      refine m_iald hx hb hK hV 0 (i := nI t) (x := (kI μ 16 t)) (a_m16 hM) rfl (vp_in_nI (by omega) (by omega)) (by rw [nI_clamp (by omega)] <;> first | rfl | (show oI (va_up _ _ _ _) = _; rw [vu_s]) | (show va_up _ _ _ _ = _; rw [vu_s])) dX5_deadlineOf_42 ?_
      refine lv_goto (tgt := 47) hx hb dX5_deadlineOf_43 (by decide) ?_
      exact m_iret (v := (kI μ 16 t)) hx hb hr hlocks hV hS (⟨_, hM, Or.inr (Or.inr ⟨t, ht, c19, rfl, rfl⟩)⟩) dX5_deadlineOf_47
    · refine lv_iconst (v := 2) hx hb dX5_deadlineOf_22 (by decide) ?_
      refine lv_goto (tgt := 27) hx hb dX5_deadlineOf_23 (by decide) ?_
      refine m_put (C := RX5) (T := TX5) (N := 34) (v := .int 2) hx hb hts hi_X5 tyX5 tyX5_ok nmX5 hown hK hV hS 33 (p_m33 hM 2) rfl (by decide) k91 (fun _ h9 => h9) rfl (tyX5_ok 33 (by decide)) rfl rfl dX5_deadlineOf_27 (fun h H locs hV hS hM => ?_)
      refine lv_aload_n hx hb dX5_deadlineOf_30 rfl (lv_at hl 0 rfl) ?_
      refine m_get (C := RX5) (T := TX5) (N := 34) hx hb hts hi_X5 hown hK hV 33 (v := .int 2) (by have z9 := g_m33 hM; exact z9) rfl (by decide) k91 (fun _ h9 => h9) dX5_deadlineOf_31 ?_
      refine lv_if_ne (tgt := 46) hx hb dX5_deadlineOf_34 (by decide) (fun c34 => ?_) (fun c34 => (absurd c34 (by decide)))
      refine lv_iconst (v := (-1)) hx hb dX5_deadlineOf_46 (by decide) ?_
      exact m_iret (v := (-1)) hx hb hr hlocks hV hS (⟨_, hM, Or.inr (Or.inl ⟨t, ht, c19, rfl⟩)⟩) dX5_deadlineOf_47
  · replace c6 : ((inR x0 (kN μ 24 0)).isSome) = false := bI_0.mp c6
    refine lv_iconst (v := 1) hx hb dX5_deadlineOf_9 (by decide) ?_
    refine lv_goto (tgt := 27) hx hb dX5_deadlineOf_10 (by decide) ?_
    refine m_put (C := RX5) (T := TX5) (N := 34) (v := .int 1) hx hb hts hi_X5 tyX5 tyX5_ok nmX5 hown hK hV hS 33 (p_m33 hM 1) rfl (by decide) k91 (fun _ h9 => h9) rfl (tyX5_ok 33 (by decide)) rfl rfl dX5_deadlineOf_27 (fun h H locs hV hS hM => ?_)
    refine lv_aload_n hx hb dX5_deadlineOf_30 rfl (lv_at hl 0 rfl) ?_
    refine m_get (C := RX5) (T := TX5) (N := 34) hx hb hts hi_X5 hown hK hV 33 (v := .int 1) (by have z9 := g_m33 hM; exact z9) rfl (by decide) k91 (fun _ h9 => h9) dX5_deadlineOf_31 ?_
    refine lv_if_ne (tgt := 46) hx hb dX5_deadlineOf_34 (by decide) (fun c34 => ?_) (fun c34 => (absurd c34 (by decide)))
    refine lv_iconst (v := (-1)) hx hb dX5_deadlineOf_46 (by decide) ?_
    exact m_iret (v := (-1)) hx hb hr hlocks hV hS (⟨_, hM, Or.inl ⟨Option.not_isSome_iff_eq_none.mp (by rw [c6]; decide), rfl⟩⟩) dX5_deadlineOf_47
set_option maxHeartbeats 4000000 in
set_option maxRecDepth 100000 in
theorem c_X5_isReady {l : Launch} {D : va_G} {cs : mC} {df : Nat} {P : Nat → Prop} {h0 : mH} {B : Nat → Nat} {μ : KS} {hh : mH} (sz : Nat) (hM : DRep cs P h0 B μ hh) (t : Nat) (ht : t < kN μ 24 0) : Met l yX5_isReady wsX5_isReady ({ frames := 0, cells := 0, slots := 0, locals := 0 }) (mPre [.ref (B 100), .int (nI t)] D cs df hh sz) (va_Qi ((fun (r : Int32) (h1 : mH) => h1 = hh ∧ r = bI (readyM μ t))) (mB D hh sz) (mA hh sz)) 0 0 (mA hh sz) := by
  refine Met.ofW (cc := cX5_isReady) (maxL := 2) (ret := (some .boolean)) (by decide) rfl ?_
  intro p e s m args below meth c s₁ B0 hml hv
  obtain ⟨hargs, hsz, hV, hE⟩ := hv
  subst hsz
  have hx := B0.exec
  have hb := B0.bytes
  have hr := B0.returns
  have hlocks := B0.notSynchronized
  have hts := atoms_spec (ws := wsX5_isReady) B0.pre
  have hown : s.vm.findClass RX5 = some m.cls := findClass_of_methodNamed B0.named
  have hK := hE.1.1
  have hA : ∀ q : Nat, s.heap.size ≤ q → mA hh s.heap.size q := mA.top
  have hS : va_S (mA hh s.heap.size) s.heap s.heap [] := va_S.rf
  have hi_X5 : ∀ w ∈ u_ws RX5 TX5 34, w ∈ wsX5_isReady := by decide +kernel
  have k69 : (Cond.fieldLink RX5 69 "TaskKernelModel" "isEnded" "[Z").before args s = true := hts _ (by decide +kernel)
  have k73 : (Cond.fieldLink RX5 73 "TaskKernelModel" "waitsFor" "[I").before args s = true := hts _ (by decide +kernel)
  have k45 : (Cond.fieldLink RX5 45 "TaskKernelModel" "lefts" "[I").before args s = true := hts _ (by decide +kernel)
  have hl := lv_entry ([.ref (B 100), .int (nI t)]) (n := 2) (by first | exact Nat.le_of_ble_eq_true rfl | simp [lg_sl, rf_cat, ct_ref, ct_int, ct_null, ct_long])
  have hent := lg_entry_eq m ([.ref (B 100), .int (nI t)]) 2
  rw [← hargs] at hent
  rw [hent]
  generalize (lg_sl ([.ref (B 100), .int (nI t)]) ++ List.replicate (2 - (lg_sl ([.ref (B 100), .int (nI t)])).length) Slot.unset).toArray = ls at hl ⊢
  replace hl : lv_has ls 2 [(0, .ref (B 100)), (1, .int (nI t))] := hl
  have hwf := hM.wf
  obtain ⟨⟨y0, y1, y2, y3⟩, y4, y5, y6, y7⟩ := hwf
  refine lv_aload_n hx hb dX5_isReady_0 rfl (lv_at hl 0 rfl) ?_
  refine m_get (C := RX5) (T := TX5) (N := 34) hx hb hts hi_X5 hown hK hV 21 (v := .ref (B 21)) (g_m21 hM) rfl (by decide) k69 (fun _ h9 => h9) dX5_isReady_1 ?_
  refine lv_iload_n hx hb dX5_isReady_4 rfl (lv_at hl 1 rfl) ?_
  refine m_zald hx hb hK hV 2 (i := nI t) (x := bI (kB μ 21 t)) (a_m21 hM) rfl (vp_in_nI (by omega) (by omega)) (by rw [nI_clamp (by omega)] <;> first | rfl | (show oI (va_up _ _ _ _) = _; rw [vu_s]) | (show va_up _ _ _ _ = _; rw [vu_s])) dX5_isReady_5 ?_
  refine lv_if_ne (tgt := 32) hx hb dX5_isReady_6 (by decide) (fun c6 => ?_) (fun c6 => ?_)
  · replace c6 : kB μ 21 t = true := bI_1.mp c6
    refine lv_iconst (v := 0) hx hb dX5_isReady_32 (by decide) ?_
    exact m_zret (v := 0) hx hb hr hlocks (by decide) hV hS (⟨rfl, by simp [readyM, bI, c6]⟩) dX5_isReady_33
  · replace c6 : kB μ 21 t = false := bI_0.mp c6
    refine lv_aload_n hx hb dX5_isReady_9 rfl (lv_at hl 0 rfl) ?_
    refine m_get (C := RX5) (T := TX5) (N := 34) hx hb hts hi_X5 hown hK hV 22 (v := .ref (B 22)) (g_m22 hM) rfl (by decide) k73 (fun _ h9 => h9) dX5_isReady_10 ?_
    refine lv_iload_n hx hb dX5_isReady_13 rfl (lv_at hl 1 rfl) ?_
    refine m_iald hx hb hK hV 0 (i := nI t) (x := oI (kO μ 22 t)) (a_m22 hM) rfl (vp_in_nI (by omega) (by omega)) (by rw [nI_clamp (by omega)] <;> first | rfl | (show oI (va_up _ _ _ _) = _; rw [vu_s]) | (show va_up _ _ _ _ = _; rw [vu_s])) dX5_isReady_14 ?_
    refine lv_iconst (v := (-1)) hx hb dX5_isReady_15 (by decide) ?_
    refine lv_icmp_ne (tgt := 32) hx hb dX5_isReady_16 (by decide) (fun c16 => ?_) (fun c16 => ?_)
    · obtain ⟨k16, c16⟩ : ∃ z, kO μ 22 t = some z := Option.ne_none_iff_exists'.mp (fun q9 => c16 ((oI_m1 (fun k9 e9 => by have : k9 < 4 := hM.wf.2.2.2.1 t (by first | assumption | (show t < kN μ 24 0; omega)) _ e9; omega)).mpr q9))
      have bk16 : k16 < 4 := hM.wf.2.2.2.1 t (by first | assumption | (show t < kN μ 24 0; omega)) _ c16
      refine lv_iconst (v := 0) hx hb dX5_isReady_32 (by decide) ?_
      exact m_zret (v := 0) hx hb hr hlocks (by decide) hV hS (⟨rfl, by simp [readyM, bI, c6, c16]⟩) dX5_isReady_33
    · replace c16 : kO μ 22 t = none := (oI_m1 (fun k9 e9 => by have : k9 < 4 := hM.wf.2.2.2.1 t (by first | assumption | (show t < kN μ 24 0; omega)) _ e9; omega)).mp c16
      refine lv_aload_n hx hb dX5_isReady_19 rfl (lv_at hl 0 rfl) ?_
      refine m_get (C := RX5) (T := TX5) (N := 34) hx hb hts hi_X5 hown hK hV 13 (v := .ref (B 13)) (g_m13 hM) rfl (by decide) k45 (fun _ h9 => h9) dX5_isReady_20 ?_
      refine lv_iload_n hx hb dX5_isReady_23 rfl (lv_at hl 1 rfl) ?_
      refine m_iald hx hb hK hV 0 (i := nI t) (x := (kI μ 13 t)) (a_m13 hM) rfl (vp_in_nI (by omega) (by omega)) (by rw [nI_clamp (by omega)] <;> first | rfl | (show oI (va_up _ _ _ _) = _; rw [vu_s]) | (show va_up _ _ _ _ = _; rw [vu_s])) dX5_isReady_24 ?_
      refine lv_if_le (tgt := 32) hx hb dX5_isReady_25 (by decide) (fun c25 => ?_) (fun c25 => ?_)
      · refine lv_iconst (v := 0) hx hb dX5_isReady_32 (by decide) ?_
        exact m_zret (v := 0) hx hb hr hlocks (by decide) hV hS (⟨rfl, by simp [readyM, bI, c6, c16, c25]⟩) dX5_isReady_33
      · refine lv_iconst (v := 1) hx hb dX5_isReady_28 (by decide) ?_
        refine lv_goto (tgt := 33) hx hb dX5_isReady_29 (by decide) ?_
        exact m_zret (v := 1) hx hb hr hlocks (by decide) hV hS (⟨rfl, by simp [readyM, bI, c6, c16, c25]⟩) dX5_isReady_33
set_option maxHeartbeats 4000000 in
set_option maxRecDepth 100000 in
theorem c_X5_isUnder {l : Launch} {D : va_G} {cs : mC} {df : Nat} {P : Nat → Prop} {h0 : mH} {B : Nat → Nat} {μ : KS} {hh : mH} (sz : Nat) (hM : DRep cs P h0 B μ hh) (a0 : Nat) (r9 : Nat) (ha0 : a0 < kN μ 9 0) (hr9 : r9 < 100) : Met l yX5_isUnder wsX5_isUnder ({ frames := 0, cells := 0, slots := 0, locals := 0 }) (mPre [.ref (B 100), .int (nI a0), .int (nI r9)] D cs df hh sz) (va_Qi ((fun (r : Int32) (h1 : mH) => h1 = hh ∧ r = bI (iuM μ r9 6 a0))) (mB D hh sz) (mA hh sz)) 0 0 (mA hh sz) := by
  refine Met.ofW (cc := cX5_isUnder) (maxL := 4) (ret := (some .boolean)) (by decide) rfl ?_
  intro p e s m args below meth c s₁ B0 hml hv
  obtain ⟨hargs, hsz, hV, hE⟩ := hv
  subst hsz
  have hx := B0.exec
  have hb := B0.bytes
  have hr := B0.returns
  have hlocks := B0.notSynchronized
  have hts := atoms_spec (ws := wsX5_isUnder) B0.pre
  have hown : s.vm.findClass RX5 = some m.cls := findClass_of_methodNamed B0.named
  have hK := hE.1.1
  have hA : ∀ q : Nat, s.heap.size ≤ q → mA hh s.heap.size q := mA.top
  have hS : va_S (mA hh s.heap.size) s.heap s.heap [] := va_S.rf
  have hi_X5 : ∀ w ∈ u_ws RX5 TX5 34, w ∈ wsX5_isUnder := by decide +kernel
  have k23 : (Cond.fieldLink RX5 23 "TaskKernelModel" "parents" "[I").before args s = true := hts _ (by decide +kernel)
  have hl := lv_entry ([.ref (B 100), .int (nI a0), .int (nI r9)]) (n := 4) (by first | exact Nat.le_of_ble_eq_true rfl | simp [lg_sl, rf_cat, ct_ref, ct_int, ct_null, ct_long])
  have hent := lg_entry_eq m ([.ref (B 100), .int (nI a0), .int (nI r9)]) 4
  rw [← hargs] at hent
  rw [hent]
  generalize (lg_sl ([.ref (B 100), .int (nI a0), .int (nI r9)]) ++ List.replicate (4 - (lg_sl ([.ref (B 100), .int (nI a0), .int (nI r9)])).length) Slot.unset).toArray = ls at hl ⊢
  replace hl : lv_has ls 4 [(0, .ref (B 100)), (1, .int (nI a0)), (2, .int (nI r9))] := hl
  have hwf := hM.wf
  obtain ⟨⟨y0, y1, y2, y3⟩, y4, y5, y6, y7⟩ := hwf
  refine lv_iload_n hx hb dX5_isUnder_0 rfl (lv_at hl 1 rfl) ?_
  refine lv_istore_n (lv' := [(3, .int (nI a0)), (0, .ref (B 100)), (1, .int (nI a0)), (2, .int (nI r9))]) hx hb dX5_isUnder_1 rfl hl (by decide) rfl (fun ls hl => ?_)
  have lp2 : ∀ (fu : Nat) (f : Nat) (a : Nat), (a ≤ f) → (a < kN μ 9 0) → (iuM μ r9 f a = iuM μ r9 6 a0) → a < fu → ∀ (H : Heap) (locs : List Loc), mV D hh (mA hh s.heap.size) H → va_S (mA hh s.heap.size) s.heap H locs → ∀ (ls : Array Slot), lv_has ls 4 [(0, .ref (B 100)), (2, .int (nI r9)), (3, .int (nI a))] → W p l e ({ frames := 0, cells := 0, slots := 0, locals := 0 } : Room) s m args below meth c H locs 0 0 (MQ below (va_Qi ((fun (r : Int32) (h1 : mH) => h1 = hh ∧ r = bI (iuM μ r9 6 a0))) (mB D hh s.heap.size) (mA hh s.heap.size)) args s 0 0 (mA hh s.heap.size)) (F0 m 2 ls []) := by
    intro fu
    induction fu with
    | zero =>
      intro f a hm ha hf hfu
      exact absurd hfu (Nat.not_lt_zero _)
    | succ fu ih2 =>
      intro f a hm ha hf hfu H locs hV hS ls hl
      refine lv_iload_n hx hb dX5_isUnder_2 rfl (lv_at hl 2 rfl) ?_
      refine lv_iload_n hx hb dX5_isUnder_3 rfl (lv_at hl 1 rfl) ?_
      refine lv_icmp_eq (tgt := 21) hx hb dX5_isUnder_4 (by decide) (fun c4 => ?_) (fun c4 => ?_)
      · replace c4 : a = r9 := (nI_eq (a := a) (b := r9) (by omega) (by omega)).mp c4
        refine lv_iload_n hx hb dX5_isUnder_21 rfl (lv_at hl 2 rfl) ?_
        refine lv_iload_n hx hb dX5_isUnder_22 rfl (lv_at hl 1 rfl) ?_
        refine lv_icmp_ne (tgt := 30) hx hb dX5_isUnder_23 (by decide) (fun c23 => ?_) (fun c23 => ?_)
        · replace c23 : ¬ a = r9 := fun q9 => c23 ((nI_eq (a := a) (b := r9) (by omega) (by omega)).mpr q9)
          exact absurd c4 c23
        · replace c23 : a = r9 := (nI_eq (a := a) (b := r9) (by omega) (by omega)).mp c23
          refine lv_iconst (v := 1) hx hb dX5_isUnder_26 (by decide) ?_
          refine lv_goto (tgt := 31) hx hb dX5_isUnder_27 (by decide) ?_
          exact m_zret (v := 1) hx hb hr hlocks (by decide) hV hS (⟨rfl, by rw [← hf, c4, iuM_e]; rfl⟩) dX5_isUnder_31
      · replace c4 : ¬ a = r9 := fun q9 => c4 ((nI_eq (a := a) (b := r9) (by omega) (by omega)).mpr q9)
        refine lv_iload_n hx hb dX5_isUnder_7 rfl (lv_at hl 2 rfl) ?_
        refine lv_if_eq (tgt := 21) hx hb dX5_isUnder_8 (by decide) (fun c8 => ?_) (fun c8 => ?_)
        · replace c8 : a = 0 := (nI_eq (a := a) (b := 0) (by omega) (by omega)).mp c8
          refine lv_iload_n hx hb dX5_isUnder_21 rfl (lv_at hl 2 rfl) ?_
          refine lv_iload_n hx hb dX5_isUnder_22 rfl (lv_at hl 1 rfl) ?_
          refine lv_icmp_ne (tgt := 30) hx hb dX5_isUnder_23 (by decide) (fun c23 => ?_) (fun c23 => ?_)
          · replace c23 : ¬ a = r9 := fun q9 => c23 ((nI_eq (a := a) (b := r9) (by omega) (by omega)).mpr q9)
            refine lv_iconst (v := 0) hx hb dX5_isUnder_30 (by decide) ?_
            exact m_zret (v := 0) hx hb hr hlocks (by decide) hV hS (⟨rfl, by rw [← hf, c8, iuM_z μ f (by rw [← c8]; exact c4)]; rfl⟩) dX5_isUnder_31
          · replace c23 : a = r9 := (nI_eq (a := a) (b := r9) (by omega) (by omega)).mp c23
            exact absurd c23 c4
        · replace c8 : ¬ a = 0 := fun q9 => c8 ((nI_eq (a := a) (b := 0) (by omega) (by omega)).mpr q9)
          refine lv_aload_n hx hb dX5_isUnder_11 rfl (lv_at hl 0 rfl) ?_
          refine m_get (C := RX5) (T := TX5) (N := 34) hx hb hts hi_X5 hown hK hV 6 (v := .ref (B 6)) (g_m6 hM) rfl (by decide) k23 (fun _ h9 => h9) dX5_isUnder_12 ?_
          refine lv_iload_n hx hb dX5_isUnder_15 rfl (lv_at hl 2 rfl) ?_
          refine m_iald hx hb hK hV 0 (i := nI a) (x := nI (kN μ 6 a)) (a_m6 hM) rfl (vp_in_nI (by omega) (by omega)) (by rw [nI_clamp (by omega)] <;> first | rfl | (show oI (va_up _ _ _ _) = _; rw [vu_s]) | (show va_up _ _ _ _ = _; rw [vu_s])) dX5_isUnder_16 ?_
          refine lv_istore_n (lv' := [(3, .int (nI (kN μ 6 a))), (0, .ref (B 100)), (2, .int (nI r9))]) hx hb dX5_isUnder_17 rfl hl (by decide) rfl (fun ls hl => ?_)
          refine lv_goto (tgt := 2) hx hb dX5_isUnder_18 (by decide) ?_
          obtain ⟨f9, rfl⟩ : ∃ f9, f = f9 + 1 := ⟨f - 1, by omega⟩
          have z9 := y4 a (by omega) ha
          have w9 : iuM μ r9 f9 (kN μ 6 a) = iuM μ r9 6 a0 := by rw [← hf, iuM, if_neg c4, if_neg c8]
          exact ih2 f9 (kN μ 6 a) (by omega) (by omega) w9 (by omega) _ _ hV hS ls (lv_sub hl [1, 2, 0] rfl)
  exact lp2 (a0 + 1) 6 a0 (by omega) ha0 rfl (Nat.lt_succ_self _) _ _ hV hS ls (lv_sub hl [1, 3, 0] rfl)
set_option maxHeartbeats 4000000 in
set_option maxRecDepth 100000 in
theorem c_X5_doneIn {l : Launch} {D : va_G} {cs : mC} {df : Nat} {P : Nat → Prop} {h0 : mH} {B : Nat → Nat} {μ : KS} {hh : mH} (sz : Nat) (hM : DRep cs P h0 B μ hh) (x0 : Int32) : Met l yX5_doneIn wsX5_doneIn ({ frames := 2, cells := 0, slots := 0, locals := 46 }) (mPre [.ref (B 100), .int x0] D cs df hh sz) (va_Qi ((fun (r : Int32) (h1 : mH) => ∃ μ1 : KS, DRep cs P h0 B μ1 h1 ∧ om_doneIn μ x0 r μ1)) (mB D hh sz) (mA hh sz)) 0 0 (mA hh sz) := by
  refine Met.ofW (cc := cX5_doneIn) (maxL := 4) (ret := (some .int)) (by decide) rfl ?_
  intro p e s m args below meth c s₁ B0 hml hv
  obtain ⟨hargs, hsz, hV, hE⟩ := hv
  subst hsz
  have hx := B0.exec
  have hb := B0.bytes
  have hr := B0.returns
  have hlocks := B0.notSynchronized
  have hts := atoms_spec (ws := wsX5_doneIn) B0.pre
  have hown : s.vm.findClass RX5 = some m.cls := findClass_of_methodNamed B0.named
  have hK := hE.1.1
  have hA : ∀ q : Nat, s.heap.size ≤ q → mA hh s.heap.size q := mA.top
  have hS : va_S (mA hh s.heap.size) s.heap s.heap [] := va_S.rf
  have k91 : (Cond.fieldLink RX5 91 "TaskKernelModel" "thrown" "I").before args s = true := hts _ (by decide +kernel)
  have hi_X5 : ∀ w ∈ u_ws RX5 TX5 34, w ∈ wsX5_doneIn := by decide +kernel
  have k117 : (Cond.fieldLink RX5 117 "TaskKernelModel" "tasks" "I").before args s = true := hts _ (by decide +kernel)
  have k36 : (Cond.fieldLink RX5 36 "TaskKernelModel" "groupOf" "[I").before args s = true := hts _ (by decide +kernel)
  have k63 : (Cond.fieldLink RX5 63 "TaskKernelModel" "done" "[I").before args s = true := hts _ (by decide +kernel)
  have hl := lv_entry ([.ref (B 100), .int x0]) (n := 4) (by first | exact Nat.le_of_ble_eq_true rfl | simp [lg_sl, rf_cat, ct_ref, ct_int, ct_null, ct_long])
  have hent := lg_entry_eq m ([.ref (B 100), .int x0]) 4
  rw [← hargs] at hent
  rw [hent]
  generalize (lg_sl ([.ref (B 100), .int x0]) ++ List.replicate (4 - (lg_sl ([.ref (B 100), .int x0])).length) Slot.unset).toArray = ls at hl ⊢
  replace hl : lv_has ls 4 [(0, .ref (B 100)), (1, .int x0)] := hl
  have hwf := hM.wf
  obtain ⟨⟨y0, y1, y2, y3⟩, y4, y5, y6, y7⟩ := hwf
  refine lv_aload_n hx hb dX5_doneIn_0 rfl (lv_at hl 0 rfl) ?_
  refine lv_aload_n hx hb dX5_doneIn_1 rfl (lv_at hl 0 rfl) ?_
  refine lv_iload_n hx hb dX5_doneIn_2 rfl (lv_at hl 1 rfl) ?_
  refine m_calli (va_runV (As := [.int x0]) (rest := [.ref (B 100)]) ⟨hx, hb, hml, hown, hts⟩ (c_X5_isGroup (l := l) (s.heap.size) hM x0) (cwV 1 hts gX5_doneIn_X5_isGroup rfl rfl rfl (by decide +kernel) ⟨by decide, by decide⟩) (m_preV (r := (RX5, TX5, 34)) hE hV hS hA (hM.at 100 (by decide)) rfl) rfl rfl hl.1 rfl (lv_room (by first | exact Nat.le_of_ble_eq_true rfl | simp [rf_cat, ct_ref, ct_int, ct_null, ct_long])) dX5_doneIn_3 ⟨by decide, by decide⟩) hV hS hA (fun r h1 H locs hV hS hp _ => ?_)
  obtain ⟨e1, e2⟩ := hp
  subst e2
  rw [e1] at hV; clear e1
  refine lv_if_eq (tgt := 13) hx hb dX5_doneIn_6 (by decide) (fun c6 => ?_) (fun c6 => ?_)
  · replace c6 : ((inR x0 (kN μ 9 0)).isSome) = false := bI_0.mp c6
    refine lv_iconst (v := 1) hx hb dX5_doneIn_13 (by decide) ?_
    refine m_put (C := RX5) (T := TX5) (N := 34) (v := .int 1) hx hb hts hi_X5 tyX5 tyX5_ok nmX5 hown hK hV hS 33 (p_m33 hM 1) rfl (by decide) k91 (fun _ h9 => h9) rfl (tyX5_ok 33 (by decide)) rfl rfl dX5_doneIn_14 (fun h H locs hV hS hM => ?_)
    refine lv_aload_n hx hb dX5_doneIn_17 rfl (lv_at hl 0 rfl) ?_
    refine m_get (C := RX5) (T := TX5) (N := 34) hx hb hts hi_X5 hown hK hV 33 (v := .int 1) (by have z9 := g_m33 hM; exact z9) rfl (by decide) k91 (fun _ h9 => h9) dX5_doneIn_18 ?_
    refine lv_if_ne (tgt := 28) hx hb dX5_doneIn_21 (by decide) (fun c21 => ?_) (fun c21 => (absurd c21 (by decide)))
    refine lv_iconst (v := (-1)) hx hb dX5_doneIn_28 (by decide) ?_
    refine lv_istore_n (lv' := [(2, .int (-1)), (0, .ref (B 100)), (1, .int x0)]) hx hb dX5_doneIn_29 rfl hl (by decide) rfl (fun ls hl => ?_)
    refine lv_iconst (v := 0) hx hb dX5_doneIn_30 (by decide) ?_
    refine lv_istore_n (lv' := [(3, .int 0), (2, .int (-1)), (0, .ref (B 100)), (1, .int x0)]) hx hb dX5_doneIn_31 rfl hl (by decide) rfl (fun ls hl => ?_)
    refine lv_iload_n hx hb dX5_doneIn_32 rfl (lv_at hl 0 rfl) ?_
    refine lv_aload_n hx hb dX5_doneIn_33 rfl (lv_at hl 2 rfl) ?_
    refine m_get (C := RX5) (T := TX5) (N := 34) hx hb hts hi_X5 hown hK hV 24 (v := .int (nI (kN μ 24 0))) (by have z9 := g_m24 hM; exact z9) rfl (by decide) k117 (fun _ h9 => h9) dX5_doneIn_34 ?_
    refine lv_icmp_ge (tgt := 80) hx hb dX5_doneIn_37 (by decide) (fun c37 => ?_) (fun c37 => ?_)
    · replace c37 : kN μ 24 0 ≤ 0 := (nI_leI (a := kN μ 24 0) (b := 0) (by omega) (by omega)).mp c37
      refine lv_iload_n hx hb dX5_doneIn_80 rfl (lv_at hl 1 rfl) ?_
      exact m_iret (v := (-1)) hx hb hr hlocks hV hS (⟨_, hM, Or.inl ⟨Option.not_isSome_iff_eq_none.mp (by rw [c6]; decide), rfl⟩⟩) dX5_doneIn_81
    · replace c37 : ¬ kN μ 24 0 ≤ 0 := fun q9 => c37 ((nI_leI (a := kN μ 24 0) (b := 0) (by omega) (by omega)).mpr q9)
      refine lv_aload_n hx hb dX5_doneIn_40 rfl (lv_at hl 2 rfl) ?_
      refine m_get (C := RX5) (T := TX5) (N := 34) hx hb hts hi_X5 hown hK hV 33 (v := .int 1) (by have z9 := g_m33 hM; exact z9) rfl (by decide) k91 (fun _ h9 => h9) dX5_doneIn_41 ?_
      refine lv_if_ne (tgt := 80) hx hb dX5_doneIn_44 (by decide) (fun c44 => ?_) (fun c44 => (absurd c44 (by decide)))
      refine lv_iload_n hx hb dX5_doneIn_80 rfl (lv_at hl 1 rfl) ?_
      exact m_iret (v := (-1)) hx hb hr hlocks hV hS (⟨_, hM, Or.inl ⟨Option.not_isSome_iff_eq_none.mp (by rw [c6]; decide), rfl⟩⟩) dX5_doneIn_81
  · replace c6 : ((inR x0 (kN μ 9 0)).isSome) = true := bI_1.mp c6
    obtain ⟨t, ht⟩ := Option.isSome_iff_exists.mp c6
    obtain ⟨et, bt⟩ := inR_some ht
    rw [et] at hl
    refine lv_iconst (v := 0) hx hb dX5_doneIn_9 (by decide) ?_
    refine lv_goto (tgt := 14) hx hb dX5_doneIn_10 (by decide) ?_
    refine m_put (C := RX5) (T := TX5) (N := 34) (v := .int 0) hx hb hts hi_X5 tyX5 tyX5_ok nmX5 hown hK hV hS 33 (p_m33 hM 0) rfl (by decide) k91 (fun _ h9 => h9) rfl (tyX5_ok 33 (by decide)) rfl rfl dX5_doneIn_14 (fun h H locs hV hS hM => ?_)
    refine lv_aload_n hx hb dX5_doneIn_17 rfl (lv_at hl 0 rfl) ?_
    refine m_get (C := RX5) (T := TX5) (N := 34) hx hb hts hi_X5 hown hK hV 33 (v := .int 0) (by have z9 := g_m33 hM; exact z9) rfl (by decide) k91 (fun _ h9 => h9) dX5_doneIn_18 ?_
    refine lv_if_ne (tgt := 28) hx hb dX5_doneIn_21 (by decide) (fun c21 => (absurd (by decide) c21)) (fun c21 => ?_)
    refine lv_iconst (v := 0) hx hb dX5_doneIn_24 (by decide) ?_
    refine lv_goto (tgt := 29) hx hb dX5_doneIn_25 (by decide) ?_
    refine lv_istore_n (lv' := [(2, .int 0), (0, .ref (B 100)), (1, .int (nI t))]) hx hb dX5_doneIn_29 rfl hl (by decide) rfl (fun ls hl => ?_)
    refine lv_iconst (v := 0) hx hb dX5_doneIn_30 (by decide) ?_
    refine lv_istore_n (lv' := [(3, .int 0), (2, .int 0), (0, .ref (B 100)), (1, .int (nI t))]) hx hb dX5_doneIn_31 rfl hl (by decide) rfl (fun ls hl => ?_)
    have lp32 : ∀ (fu : Nat) (i : Nat), (i ≤ kN μ 24 0) → kN μ 24 0 - i < fu → ∀ (h : mH) (H : Heap) (locs : List Loc), DRep cs P h0 B (thS μ 0) h → mV D h (mA hh s.heap.size) H → va_S (mA hh s.heap.size) s.heap H locs → ∀ (ls : Array Slot), lv_has ls 4 [(0, .ref (B 100)), (1, .int (nI t)), (2, .int (sumI (diF μ t) i)), (3, .int (nI i))] → W p l e ({ frames := 2, cells := 0, slots := 0, locals := 46 } : Room) s m args below meth c H locs 0 0 (MQ below (va_Qi ((fun (r : Int32) (h1 : mH) => ∃ μ1 : KS, DRep cs P h0 B μ1 h1 ∧ om_doneIn μ x0 r μ1)) (mB D hh s.heap.size) (mA hh s.heap.size)) args s 0 0 (mA hh s.heap.size)) (F0 m 32 ls []) := by
      intro fu
      induction fu with
      | zero =>
        intro i hi hfu
        exact absurd hfu (Nat.not_lt_zero _)
      | succ fu ih32 =>
        intro i hi hfu h H locs hM hV hS ls hl
        have en : kN (thS μ 0) 24 0 = kN μ 24 0 := rfl
        have e10 : kN (thS μ 0) 10 = kN μ 10 := rfl
        refine lv_iload_n hx hb dX5_doneIn_32 rfl (lv_at hl 3 rfl) ?_
        refine lv_aload_n hx hb dX5_doneIn_33 rfl (lv_at hl 0 rfl) ?_
        refine m_get (C := RX5) (T := TX5) (N := 34) hx hb hts hi_X5 hown hK hV 24 (v := .int (nI (kN (thS μ 0) 24 0))) (by have z9 := g_m24 hM; exact z9) rfl (by decide) k117 (fun _ h9 => h9) dX5_doneIn_34 ?_
        refine lv_icmp_ge (tgt := 80) hx hb dX5_doneIn_37 (by decide) (fun c37 => ?_) (fun c37 => ?_)
        · replace c37 : kN (thS μ 0) 24 0 ≤ i := (nI_leI (a := kN (thS μ 0) 24 0) (b := i) (by omega) (by omega)).mp c37
          refine lv_iload_n hx hb dX5_doneIn_80 rfl (lv_at hl 2 rfl) ?_
          exact m_iret (v := (sumI (diF μ t) i)) hx hb hr hlocks hV hS (⟨_, hM, Or.inr ⟨t, ht, rfl, by rw [show i = kN μ 24 0 from (by have en : kN (thS μ 0) 24 0 = kN μ 24 0 := rfl; omega)]⟩⟩) dX5_doneIn_81
        · replace c37 : ¬ kN (thS μ 0) 24 0 ≤ i := fun q9 => c37 ((nI_leI (a := kN (thS μ 0) 24 0) (b := i) (by omega) (by omega)).mpr q9)
          refine lv_aload_n hx hb dX5_doneIn_40 rfl (lv_at hl 0 rfl) ?_
          refine m_get (C := RX5) (T := TX5) (N := 34) hx hb hts hi_X5 hown hK hV 33 (v := .int (kI (thS μ 0) 33 0)) (by have z9 := g_m33 hM; exact z9) rfl (by decide) k91 (fun _ h9 => h9) dX5_doneIn_41 ?_
          refine lv_if_ne (tgt := 80) hx hb dX5_doneIn_44 (by decide) (fun c44 => ?_) (fun c44 => ?_)
          · refine lv_iload_n hx hb dX5_doneIn_80 rfl (lv_at hl 2 rfl) ?_
            exact m_iret (v := (sumI (diF μ t) i)) hx hb hr hlocks hV hS (⟨_, hM, Or.inr ⟨t, ht, rfl, absurd (show kI (thS μ 0) 33 0 = 0 from rfl) c44⟩⟩) dX5_doneIn_81
          · refine lv_iload_n hx hb dX5_doneIn_47 rfl (lv_at hl 2 rfl) ?_
            refine lv_aload_n hx hb dX5_doneIn_48 rfl (lv_at hl 0 rfl) ?_
            refine lv_aload_n hx hb dX5_doneIn_49 rfl (lv_at hl 0 rfl) ?_
            refine m_get (C := RX5) (T := TX5) (N := 34) hx hb hts hi_X5 hown hK hV 10 (v := .ref (B 10)) (g_m10 hM) rfl (by decide) k36 (fun _ h9 => h9) dX5_doneIn_50 ?_
            refine lv_iload_n hx hb dX5_doneIn_53 rfl (lv_at hl 3 rfl) ?_
            refine m_iald hx hb hK hV 0 (i := nI i) (x := nI (kN (thS μ 0) 10 i)) (a_m10 hM) rfl (vp_in_nI (by omega) (by omega)) (by rw [nI_clamp (by omega)] <;> first | rfl | (show oI (va_up _ _ _ _) = _; rw [vu_s]) | (show va_up _ _ _ _ = _; rw [vu_s])) dX5_doneIn_54 ?_
            refine lv_iload_n hx hb dX5_doneIn_55 rfl (lv_at hl 1 rfl) ?_
            refine m_calli (va_runV (As := [.int (nI (kN (thS μ 0) 10 i)), .int (nI t)]) (rest := [.int (sumI (diF μ t) i)]) ⟨hx, hb, hml, hown, hts⟩ (c_X5_isUnder (l := l) (H.size) hM (kN (thS μ 0) 10 i) t (y5 i (by omega)) (by omega)) (cwV 2 hts gX5_doneIn_X5_isUnder rfl rfl rfl (by decide +kernel) ⟨by decide, by decide⟩) (m_preV (r := (RX5, TX5, 34)) hE hV hS hA (hM.at 100 (by decide)) rfl) rfl rfl hl.1 rfl (lv_room (by first | exact Nat.le_of_ble_eq_true rfl | simp [rf_cat, ct_ref, ct_int, ct_null, ct_long])) dX5_doneIn_56 ⟨by decide, by decide⟩) hV hS hA (fun r h1 H locs hV hS hp _ => ?_)
            obtain ⟨e1, e2⟩ := hp
            subst e2
            rw [e1] at hV; clear e1
            refine m_topi (y := bI (iuM μ t 6 (kN μ 10 i))) (congrArg bI (iuM_th μ 0 t 6 (kN μ 10 i))) ?_
            refine lv_if_eq (tgt := 71) hx hb dX5_doneIn_59 (by decide) (fun c59 => ?_) (fun c59 => ?_)
            · replace c59 : (iuM μ t 6 (kN μ 10 i)) = false := bI_0.mp c59
              refine lv_iconst (v := 0) hx hb dX5_doneIn_71 (by decide) ?_
              refine lv_iadd hx hb dX5_doneIn_72 ?_
              refine lv_istore_n (lv' := [(2, .int ((sumI (diF μ t) i) + 0)), (0, .ref (B 100)), (1, .int (nI t)), (3, .int (nI i))]) hx hb dX5_doneIn_73 rfl hl (by decide) rfl (fun ls hl => ?_)
              refine lv_iinc (v := nI (i + 1)) (lv' := [(3, .int (nI (i + 1))), (2, .int ((sumI (diF μ t) i) + 0)), (0, .ref (B 100)), (1, .int (nI t))]) hx hb dX5_doneIn_74 hl (k := 3) rfl (show nI i + Int32.ofInt 1 = _ from nI_add i 1) (by decide) rfl (fun ls hl => ?_)
              refine lv_goto (tgt := 32) hx hb dX5_doneIn_77 (by decide) ?_
              have q1 : ((sumI (diF μ t) i) + 0) = (sumI (diF μ t) (i + 1)) := (by show _ = sumI (diF μ t) i + diF μ t i; unfold diF; rw [if_neg (by rw [c59]; decide)])
              replace hl : lv_has ls 4 [(3, .int (nI (i + 1))), (2, .int (sumI (diF μ t) (i + 1))), (0, .ref (B 100)), (1, .int (nI t))] := (congrArg (lv_has ls 4) (m_lc rfl (m_lc (congrArg Value.int q1) (m_lc rfl (m_lc rfl rfl))))).mp hl
              exact ih32 (i + 1) (by omega) (by omega) _ _ _ hM hV hS ls (lv_sub hl [2, 3, 1, 0] rfl)
            · replace c59 : (iuM μ t 6 (kN μ 10 i)) = true := bI_1.mp c59
              refine lv_aload_n hx hb dX5_doneIn_62 rfl (lv_at hl 0 rfl) ?_
              refine m_get (C := RX5) (T := TX5) (N := 34) hx hb hts hi_X5 hown hK hV 19 (v := .ref (B 19)) (g_m19 hM) rfl (by decide) k63 (fun _ h9 => h9) dX5_doneIn_63 ?_
              refine lv_iload_n hx hb dX5_doneIn_66 rfl (lv_at hl 3 rfl) ?_
              refine m_iald hx hb hK hV 0 (i := nI i) (x := (kI (thS μ 0) 19 i)) (a_m19 hM) rfl (vp_in_nI (by omega) (by omega)) (by rw [nI_clamp (by omega)] <;> first | rfl | (show oI (va_up _ _ _ _) = _; rw [vu_s]) | (show va_up _ _ _ _ = _; rw [vu_s])) dX5_doneIn_67 ?_
              refine lv_goto (tgt := 72) hx hb dX5_doneIn_68 (by decide) ?_
              refine lv_iadd hx hb dX5_doneIn_72 ?_
              refine lv_istore_n (lv' := [(2, .int ((sumI (diF μ t) i) + (kI (thS μ 0) 19 i))), (0, .ref (B 100)), (1, .int (nI t)), (3, .int (nI i))]) hx hb dX5_doneIn_73 rfl hl (by decide) rfl (fun ls hl => ?_)
              refine lv_iinc (v := nI (i + 1)) (lv' := [(3, .int (nI (i + 1))), (2, .int ((sumI (diF μ t) i) + (kI (thS μ 0) 19 i))), (0, .ref (B 100)), (1, .int (nI t))]) hx hb dX5_doneIn_74 hl (k := 3) rfl (show nI i + Int32.ofInt 1 = _ from nI_add i 1) (by decide) rfl (fun ls hl => ?_)
              refine lv_goto (tgt := 32) hx hb dX5_doneIn_77 (by decide) ?_
              have q2 : ((sumI (diF μ t) i) + (kI (thS μ 0) 19 i)) = (sumI (diF μ t) (i + 1)) := (by show _ = sumI (diF μ t) i + diF μ t i; unfold diF; rw [if_pos c59] <;> rfl)
              replace hl : lv_has ls 4 [(3, .int (nI (i + 1))), (2, .int (sumI (diF μ t) (i + 1))), (0, .ref (B 100)), (1, .int (nI t))] := (congrArg (lv_has ls 4) (m_lc rfl (m_lc (congrArg Value.int q2) (m_lc rfl (m_lc rfl rfl))))).mp hl
              exact ih32 (i + 1) (by omega) (by omega) _ _ _ hM hV hS ls (lv_sub hl [2, 3, 1, 0] rfl)
    have q3 : (sI μ 33 (va_up (kI μ 33) 0 0)) = (thS μ 0) := rfl
    rw [q3] at hM
    have q4 : 0 = (sumI (diF μ t) 0) := rfl
    have q5 : 0 = nI 0 := rfl
    replace hl : lv_has ls 4 [(3, .int (nI 0)), (2, .int (sumI (diF μ t) 0)), (0, .ref (B 100)), (1, .int (nI t))] := (congrArg (lv_has ls 4) (m_lc (congrArg Value.int q5) (m_lc (congrArg Value.int q4) (m_lc rfl (m_lc rfl rfl))))).mp hl
    exact lp32 ((kN μ 24 0 - 0) + 1) 0 (Nat.zero_le _) (Nat.lt_succ_self _) _ _ _ hM hV hS ls (lv_sub hl [2, 3, 1, 0] rfl)
