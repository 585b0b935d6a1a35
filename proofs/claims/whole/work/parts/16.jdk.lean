set_option maxHeartbeats 4000000 in
set_option maxRecDepth 100000 in
/-- size() -/
theorem c_Jx4a65c_size_8abf5 {l : Launch} {D : va_G} {cs : mC} {df : Nat} {hh : mH} {m0 : Int32} {d0 z : Nat} (sz : Nat) (a : Nat) (ha : hh a = some (.inr (2, [.int m0, .ref d0, .int (nI z)]))) : Met l yJx4a65c_size_8abf5 wsJx4a65c_size_8abf5 ({ frames := 0, cells := 0, slots := 0, locals := 0 }) (mPre [.ref a] D cs df hh sz) (va_Qi ((fun (r : Int32) (h1 : mH) => h1 = hh ∧ r = nI z)) (mB D hh sz) (mA hh sz)) 0 0 (mA hh sz) := by
  refine Met.ofW (cc := cJx4a65c_size_8abf5) (maxL := 1) (ret := (some .int)) (by decide) rfl ?_
  intro p e s m args below meth c s₁ B0 hml hv
  obtain ⟨hargs, hsz, hV, hE⟩ := hv
  subst hsz
  have hx := B0.exec
  have hb := B0.bytes
  have hr := B0.returns
  have hlocks := B0.notSynchronized
  have hts := atoms_spec (ws := wsJx4a65c_size_8abf5) B0.pre
  have hown : s.vm.findClass RJx4a65c = some m.cls := findClass_of_methodNamed B0.named
  have hK := hE.1.1
  have hA : ∀ q : Nat, s.heap.size ≤ q → mA hh s.heap.size q := mA.top
  have hS : va_S (mA hh s.heap.size) s.heap s.heap [] := va_S.rf
  have k48 : (Cond.fieldLink RJx4a65c 48 "java/util/ArrayList" "size" "I").before args s = true := hts _ (by decide +kernel)
  have hi_Jx4a65c : ∀ w ∈ u_ws RJx4a65c TJx4a65c 3, w ∈ wsJx4a65c_size_8abf5 := by decide +kernel
  have hl := lv_entry ([.ref a]) (n := 1) (by first | exact Nat.le_of_ble_eq_true rfl | simp [lg_sl, rf_cat, ct_ref, ct_int, ct_null, ct_long])
  have hent := lg_entry_eq m ([.ref a]) 1
  rw [← hargs] at hent
  rw [hent]
  generalize (lg_sl ([.ref a]) ++ List.replicate (1 - (lg_sl ([.ref a])).length) Slot.unset).toArray = ls at hl ⊢
  replace hl : lv_has ls 1 [(0, .ref a)] := hl
  refine lv_aload_n hx hb dJx4a65c_size_8abf5_0 rfl (lv_at hl 0 rfl) ?_
  refine m_get (C := RJx4a65c) (T := TJx4a65c) (N := 3) hx hb hts hi_Jx4a65c hown hK hV 2 (v := .int (nI z)) ⟨_, ha, rfl⟩ rfl (by decide) k48 (fun _ h9 => h9) dJx4a65c_size_8abf5_1 ?_
  exact m_iret (v := nI z) hx hb hr hlocks hV hS (⟨rfl, rfl⟩) dJx4a65c_size_8abf5_4
set_option maxHeartbeats 4000000 in
set_option maxRecDepth 100000 in
/-- isEmpty() -/
theorem c_Jx4a65c_isEmpty_aae02 {l : Launch} {D : va_G} {cs : mC} {df : Nat} {hh : mH} {m0 : Int32} {d0 z : Nat} (sz : Nat) (a : Nat) (ha : hh a = some (.inr (2, [.int m0, .ref d0, .int (nI z)]))) (hz : z < 2 ^ 31) : Met l yJx4a65c_isEmpty_aae02 wsJx4a65c_isEmpty_aae02 ({ frames := 0, cells := 0, slots := 0, locals := 0 }) (mPre [.ref a] D cs df hh sz) (va_Qi ((fun (r : Int32) (h1 : mH) => h1 = hh ∧ r = bI (decide (z = 0)))) (mB D hh sz) (mA hh sz)) 0 0 (mA hh sz) := by
  refine Met.ofW (cc := cJx4a65c_isEmpty_aae02) (maxL := 1) (ret := (some .boolean)) (by decide) rfl ?_
  intro p e s m args below meth c s₁ B0 hml hv
  obtain ⟨hargs, hsz, hV, hE⟩ := hv
  subst hsz
  have hx := B0.exec
  have hb := B0.bytes
  have hr := B0.returns
  have hlocks := B0.notSynchronized
  have hts := atoms_spec (ws := wsJx4a65c_isEmpty_aae02) B0.pre
  have hown : s.vm.findClass RJx4a65c = some m.cls := findClass_of_methodNamed B0.named
  have hK := hE.1.1
  have hA : ∀ q : Nat, s.heap.size ≤ q → mA hh s.heap.size q := mA.top
  have hS : va_S (mA hh s.heap.size) s.heap s.heap [] := va_S.rf
  have k48 : (Cond.fieldLink RJx4a65c 48 "java/util/ArrayList" "size" "I").before args s = true := hts _ (by decide +kernel)
  have hi_Jx4a65c : ∀ w ∈ u_ws RJx4a65c TJx4a65c 3, w ∈ wsJx4a65c_isEmpty_aae02 := by decide +kernel
  have hl := lv_entry ([.ref a]) (n := 1) (by first | exact Nat.le_of_ble_eq_true rfl | simp [lg_sl, rf_cat, ct_ref, ct_int, ct_null, ct_long])
  have hent := lg_entry_eq m ([.ref a]) 1
  rw [← hargs] at hent
  rw [hent]
  generalize (lg_sl ([.ref a]) ++ List.replicate (1 - (lg_sl ([.ref a])).length) Slot.unset).toArray = ls at hl ⊢
  replace hl : lv_has ls 1 [(0, .ref a)] := hl
  refine lv_aload_n hx hb dJx4a65c_isEmpty_aae02_0 rfl (lv_at hl 0 rfl) ?_
  refine m_get (C := RJx4a65c) (T := TJx4a65c) (N := 3) hx hb hts hi_Jx4a65c hown hK hV 2 (v := .int (nI z)) ⟨_, ha, rfl⟩ rfl (by decide) k48 (fun _ h9 => h9) dJx4a65c_isEmpty_aae02_1 ?_
  refine lv_if_ne (tgt := 11) hx hb dJx4a65c_isEmpty_aae02_4 (by decide) (fun c4 => ?_) (fun c4 => ?_)
  · replace c4 : ¬ z = 0 := fun q9 => c4 ((nI_eq (a := z) (b := 0) (by omega) (by omega)).mpr q9)
    refine lv_iconst (v := 0) hx hb dJx4a65c_isEmpty_aae02_11 (by decide) ?_
    exact m_zret (v := 0) hx hb hr hlocks (by decide) hV hS (⟨rfl, by simp [c4, bI]⟩) dJx4a65c_isEmpty_aae02_12
  · replace c4 : z = 0 := (nI_eq (a := z) (b := 0) (by omega) (by omega)).mp c4
    refine lv_iconst (v := 1) hx hb dJx4a65c_isEmpty_aae02_7 (by decide) ?_
    refine lv_goto (tgt := 12) hx hb dJx4a65c_isEmpty_aae02_8 (by decide) ?_
    exact m_zret (v := 1) hx hb hr hlocks (by decide) hV hS (⟨rfl, by simp [c4, bI]⟩) dJx4a65c_isEmpty_aae02_12
set_option maxHeartbeats 4000000 in
set_option maxRecDepth 100000 in
theorem c_J3_checkIndex_8e157 {l : Launch} {D : va_G} {cs : mC} {df : Nat} {hh : mH}  (sz : Nat) (i : Nat) (n : Nat) (hi : i < n) (hn : n < 2 ^ 31) : Met l yJ3_checkIndex_8e157 wsJ3_checkIndex_8e157 ({ frames := 0, cells := 0, slots := 0, locals := 0 }) (mPre [.int (nI i), .int (nI n), .null] D cs df hh sz) (va_Qi ((fun (r : Int32) (h1 : mH) => h1 = hh ∧ r = nI i)) (mB D hh sz) (mA hh sz)) 0 0 (mA hh sz) := by
  refine Met.ofW (cc := cJ3_checkIndex_8e157) (maxL := 3) (ret := (some .int)) (by decide) rfl ?_
  intro p e s m args below meth c s₁ B0 hml hv
  obtain ⟨hargs, hsz, hV, hE⟩ := hv
  subst hsz
  have hx := B0.exec
  have hb := B0.bytes
  have hr := B0.returns
  have hlocks := B0.notSynchronized
  have hts := atoms_spec (ws := wsJ3_checkIndex_8e157) B0.pre
  have hown : s.vm.findClass RJ3 = some m.cls := findClass_of_methodNamed B0.named
  have hK := hE.1.1
  have hA : ∀ q : Nat, s.heap.size ≤ q → mA hh s.heap.size q := mA.top
  have hS : va_S (mA hh s.heap.size) s.heap s.heap [] := va_S.rf
  have hl := lv_entry ([.int (nI i), .int (nI n), .null]) (n := 3) (by first | exact Nat.le_of_ble_eq_true rfl | simp [lg_sl, rf_cat, ct_ref, ct_int, ct_null, ct_long])
  have hent := lg_entry_eq m ([.int (nI i), .int (nI n), .null]) 3
  rw [← hargs] at hent
  rw [hent]
  generalize (lg_sl ([.int (nI i), .int (nI n), .null]) ++ List.replicate (3 - (lg_sl ([.int (nI i), .int (nI n), .null])).length) Slot.unset).toArray = ls at hl ⊢
  replace hl : lv_has ls 3 [(0, .int (nI i)), (1, .int (nI n)), (2, .null)] := hl
  refine lv_iload_n hx hb dJ3_checkIndex_8e157_0 rfl (lv_at hl 0 rfl) ?_
  refine lv_if_lt (tgt := 9) hx hb dJ3_checkIndex_8e157_1 (by decide) (fun c1 => ?_) (fun c1 => ?_)
  · replace c1 : i < 0 := (nI_ltI (a := i) (b := 0) (by omega) (by omega)).mp c1
    exfalso; omega
  · replace c1 : ¬ i < 0 := fun q9 => c1 ((nI_ltI (a := i) (b := 0) (by omega) (by omega)).mpr q9)
    refine lv_iload_n hx hb dJ3_checkIndex_8e157_4 rfl (lv_at hl 0 rfl) ?_
    refine lv_iload_n hx hb dJ3_checkIndex_8e157_5 rfl (lv_at hl 1 rfl) ?_
    refine lv_icmp_lt (tgt := 16) hx hb dJ3_checkIndex_8e157_6 (by decide) (fun c6 => ?_) (fun c6 => ?_)
    · replace c6 : i < n := (nI_ltI (a := i) (b := n) (by omega) (by omega)).mp c6
      refine lv_iload_n hx hb dJ3_checkIndex_8e157_16 rfl (lv_at hl 0 rfl) ?_
      exact m_iret (v := nI i) hx hb hr hlocks hV hS (⟨rfl, rfl⟩) dJ3_checkIndex_8e157_17
    · replace c6 : ¬ i < n := fun q9 => c6 ((nI_ltI (a := i) (b := n) (by omega) (by omega)).mpr q9)
      exfalso; omega
set_option maxHeartbeats 4000000 in
set_option maxRecDepth 100000 in
theorem c_J15_checkIndex_7cf53 {l : Launch} {D : va_G} {cs : mC} {df : Nat} {hh : mH}  (sz : Nat) (i : Nat) (n : Nat) (hi : i < n) (hn : n < 2 ^ 31) : Met l yJ15_checkIndex_7cf53 wsJ15_checkIndex_7cf53 ({ frames := 1, cells := 0, slots := 0, locals := 22 }) (mPre [.int (nI i), .int (nI n)] D cs df hh sz) (va_Qi ((fun (r : Int32) (h1 : mH) => h1 = hh ∧ r = nI i)) (mB D hh sz) (mA hh sz)) 0 0 (mA hh sz) := by
  refine Met.ofW (cc := cJ15_checkIndex_7cf53) (maxL := 2) (ret := (some .int)) (by decide) rfl ?_
  intro p e s m args below meth c s₁ B0 hml hv
  obtain ⟨hargs, hsz, hV, hE⟩ := hv
  subst hsz
  have hx := B0.exec
  have hb := B0.bytes
  have hr := B0.returns
  have hlocks := B0.notSynchronized
  have hts := atoms_spec (ws := wsJ15_checkIndex_7cf53) B0.pre
  have hown : s.vm.findClass RJ15 = some m.cls := findClass_of_methodNamed B0.named
  have hK := hE.1.1
  have hA : ∀ q : Nat, s.heap.size ≤ q → mA hh s.heap.size q := mA.top
  have hS : va_S (mA hh s.heap.size) s.heap s.heap [] := va_S.rf
  have hl := lv_entry ([.int (nI i), .int (nI n)]) (n := 2) (by first | exact Nat.le_of_ble_eq_true rfl | simp [lg_sl, rf_cat, ct_ref, ct_int, ct_null, ct_long])
  have hent := lg_entry_eq m ([.int (nI i), .int (nI n)]) 2
  rw [← hargs] at hent
  rw [hent]
  generalize (lg_sl ([.int (nI i), .int (nI n)]) ++ List.replicate (2 - (lg_sl ([.int (nI i), .int (nI n)])).length) Slot.unset).toArray = ls at hl ⊢
  replace hl : lv_has ls 2 [(0, .int (nI i)), (1, .int (nI n))] := hl
  refine lv_iload_n hx hb dJ15_checkIndex_7cf53_0 rfl (lv_at hl 0 rfl) ?_
  refine lv_iload_n hx hb dJ15_checkIndex_7cf53_1 rfl (lv_at hl 1 rfl) ?_
  refine lv_null hx hb dJ15_checkIndex_7cf53_2 ?_
  refine m_calli (va_runS (As := [.int (nI i), .int (nI n), .null]) (rest := []) ⟨hx, hb, hml, hown, hts⟩ (c_J3_checkIndex_8e157 (l := l) (D := D) (cs := cs) (df := df) (hh := hh) (s.heap.size) i n (by omega) (by omega)) (va_cwS 3 hts gJ15_checkIndex_7cf53_J3_checkIndex_8e157 rfl rfl rfl (by decide +kernel) ⟨by decide, by decide⟩) (m_preS hE hV hS hA) rfl rfl hl.1 rfl (lv_room (by first | exact Nat.le_of_ble_eq_true rfl | simp [rf_cat, ct_ref, ct_int, ct_null, ct_long])) dJ15_checkIndex_7cf53_3 ⟨by decide, by decide⟩) hV hS hA (fun r h1 H locs hV hS hp _ => ?_)
  obtain ⟨e1, e2⟩ := hp
  subst e2
  rw [e1] at hV; clear e1
  exact m_iret (v := nI i) hx hb hr hlocks hV hS (⟨rfl, rfl⟩) dJ15_checkIndex_7cf53_6
set_option maxHeartbeats 4000000 in
set_option maxRecDepth 100000 in
theorem c_Jx4a65c_elementData_915e3 {l : Launch} {D : va_G} {cs : mC} {df : Nat} {hh : mH} {m0 : Int32} {d0 z n : Nat} {f : Nat → Option Nat} (sz : Nat) (a : Nat) (i : Nat) (ha : hh a = some (.inr (2, [.int m0, .ref d0, .int (nI z)]))) (hd : hh d0 = some (.inl (cs.2.2.2.2.1, n, .inr (.inr (.inr (.inr f)))))) (hi : i < z) (hz : z ≤ n) (hn : n ≤ 1000) : Met l yJx4a65c_elementData_915e3 wsJx4a65c_elementData_915e3 ({ frames := 0, cells := 0, slots := 0, locals := 0 }) (mPre [.ref a, .int (nI i)] D cs df hh sz) (va_Qq ((fun (r : Option Nat) (h1 : mH) => h1 = hh ∧ r = (f i))) (mB D hh sz) (mA hh sz)) 0 0 (mA hh sz) := by
  refine Met.ofW (cc := cJx4a65c_elementData_915e3) (maxL := 2) (ret := (some (.object "java/lang/Object"))) (by decide) rfl ?_
  intro p e s m args below meth c s₁ B0 hml hv
  obtain ⟨hargs, hsz, hV, hE⟩ := hv
  subst hsz
  have hx := B0.exec
  have hb := B0.bytes
  have hr := B0.returns
  have hlocks := B0.notSynchronized
  have hts := atoms_spec (ws := wsJx4a65c_elementData_915e3) B0.pre
  have hown : s.vm.findClass RJx4a65c = some m.cls := findClass_of_methodNamed B0.named
  have hK := hE.1.1
  have hA : ∀ q : Nat, s.heap.size ≤ q → mA hh s.heap.size q := mA.top
  have hS : va_S (mA hh s.heap.size) s.heap s.heap [] := va_S.rf
  have k9 : (Cond.fieldLink RJx4a65c 9 "java/util/ArrayList" "elementData" "[Ljava/lang/Object;").before args s = true := hts _ (by decide +kernel)
  have hi_Jx4a65c : ∀ w ∈ u_ws RJx4a65c TJx4a65c 3, w ∈ wsJx4a65c_elementData_915e3 := by decide +kernel
  have hl := lv_entry ([.ref a, .int (nI i)]) (n := 2) (by first | exact Nat.le_of_ble_eq_true rfl | simp [lg_sl, rf_cat, ct_ref, ct_int, ct_null, ct_long])
  have hent := lg_entry_eq m ([.ref a, .int (nI i)]) 2
  rw [← hargs] at hent
  rw [hent]
  generalize (lg_sl ([.ref a, .int (nI i)]) ++ List.replicate (2 - (lg_sl ([.ref a, .int (nI i)])).length) Slot.unset).toArray = ls at hl ⊢
  replace hl : lv_has ls 2 [(0, .ref a), (1, .int (nI i))] := hl
  refine lv_aload_n hx hb dJx4a65c_elementData_915e3_0 rfl (lv_at hl 0 rfl) ?_
  refine m_get (C := RJx4a65c) (T := TJx4a65c) (N := 3) hx hb hts hi_Jx4a65c hown hK hV 1 (v := .ref d0) ⟨_, ha, rfl⟩ rfl (by decide) k9 (fun _ h9 => h9) dJx4a65c_elementData_915e3_1 ?_
  refine lv_iload_n hx hb dJx4a65c_elementData_915e3_4 rfl (lv_at hl 1 rfl) ?_
  refine m_aald hx hb hK hV 4 (i := nI i) (x := (f i)) hd rfl (vp_in_nI (by omega) (by omega)) (by rw [nI_clamp (by omega)] <;> rfl) dJx4a65c_elementData_915e3_5 ?_
  exact m_aret (v := (f i)) hx hb hr hlocks (Or.inl ⟨_, rfl⟩) hV hS (⟨rfl, rfl⟩) dJx4a65c_elementData_915e3_6
set_option maxHeartbeats 4000000 in
set_option maxRecDepth 100000 in
/-- get(i) -/
theorem c_Jx4a65c_get_915e3 {l : Launch} {D : va_G} {cs : mC} {df : Nat} {hh : mH} {m0 : Int32} {d0 z n : Nat} {f : Nat → Option Nat} {y : Nat} (sz : Nat) (a : Nat) (i : Nat) (ha : hh a = some (.inr (2, [.int m0, .ref d0, .int (nI z)]))) (hd : hh d0 = some (.inl (cs.2.2.2.2.1, n, .inr (.inr (.inr (.inr f)))))) (hi : i < z) (hz : z ≤ n) (hn : n ≤ 1000) (hy : f i = some y) : Met l yJx4a65c_get_915e3 wsJx4a65c_get_915e3 ({ frames := 2, cells := 0, slots := 0, locals := 43 }) (mPre [.ref a, .int (nI i)] D cs df hh sz) (va_Qq ((fun (r : Option Nat) (h1 : mH) => h1 = hh ∧ r = (some y))) (mB D hh sz) (mA hh sz)) 0 0 (mA hh sz) := by
  refine Met.ofW (cc := cJx4a65c_get_915e3) (maxL := 2) (ret := (some (.object "java/lang/Object"))) (by decide) rfl ?_
  intro p e s m args below meth c s₁ B0 hml hv
  obtain ⟨hargs, hsz, hV, hE⟩ := hv
  subst hsz
  have hx := B0.exec
  have hb := B0.bytes
  have hr := B0.returns
  have hlocks := B0.notSynchronized
  have hts := atoms_spec (ws := wsJx4a65c_get_915e3) B0.pre
  have hown : s.vm.findClass RJx4a65c = some m.cls := findClass_of_methodNamed B0.named
  have hK := hE.1.1
  have hA : ∀ q : Nat, s.heap.size ≤ q → mA hh s.heap.size q := mA.top
  have hS : va_S (mA hh s.heap.size) s.heap s.heap [] := va_S.rf
  have k48 : (Cond.fieldLink RJx4a65c 48 "java/util/ArrayList" "size" "I").before args s = true := hts _ (by decide +kernel)
  have hi_Jx4a65c : ∀ w ∈ u_ws RJx4a65c TJx4a65c 3, w ∈ wsJx4a65c_get_915e3 := by decide +kernel
  have hl := lv_entry ([.ref a, .int (nI i)]) (n := 2) (by first | exact Nat.le_of_ble_eq_true rfl | simp [lg_sl, rf_cat, ct_ref, ct_int, ct_null, ct_long])
  have hent := lg_entry_eq m ([.ref a, .int (nI i)]) 2
  rw [← hargs] at hent
  rw [hent]
  generalize (lg_sl ([.ref a, .int (nI i)]) ++ List.replicate (2 - (lg_sl ([.ref a, .int (nI i)])).length) Slot.unset).toArray = ls at hl ⊢
  replace hl : lv_has ls 2 [(0, .ref a), (1, .int (nI i))] := hl
  refine lv_iload_n hx hb dJx4a65c_get_915e3_0 rfl (lv_at hl 1 rfl) ?_
  refine lv_aload_n hx hb dJx4a65c_get_915e3_1 rfl (lv_at hl 0 rfl) ?_
  refine m_get (C := RJx4a65c) (T := TJx4a65c) (N := 3) hx hb hts hi_Jx4a65c hown hK hV 2 (v := .int (nI z)) ⟨_, ha, rfl⟩ rfl (by decide) k48 (fun _ h9 => h9) dJx4a65c_get_915e3_2 ?_
  refine m_calli (va_runS (As := [.int (nI i), .int (nI z)]) (rest := []) ⟨hx, hb, hml, hown, hts⟩ (c_J15_checkIndex_7cf53 (l := l) (D := D) (cs := cs) (df := df) (hh := hh) (s.heap.size) i z (by omega) (by omega)) (va_cwS 2 hts gJx4a65c_get_915e3_J15_checkIndex_7cf53 rfl rfl rfl (by decide +kernel) ⟨by decide, by decide⟩) (m_preS hE hV hS hA) rfl rfl hl.1 rfl (lv_room (by first | exact Nat.le_of_ble_eq_true rfl | simp [rf_cat, ct_ref, ct_int, ct_null, ct_long])) dJx4a65c_get_915e3_5 ⟨by decide, by decide⟩) hV hS hA (fun r h1 H locs hV hS hp _ => ?_)
  obtain ⟨e1, e2⟩ := hp
  subst e2
  rw [e1] at hV; clear e1
  refine lv_pop hx hb dJx4a65c_get_915e3_8 rfl ?_
  refine lv_aload_n hx hb dJx4a65c_get_915e3_9 rfl (lv_at hl 0 rfl) ?_
  refine lv_iload_n hx hb dJx4a65c_get_915e3_10 rfl (lv_at hl 1 rfl) ?_
  refine m_callq (va_runV (As := [.int (nI i)]) (rest := []) ⟨hx, hb, hml, hown, hts⟩ (c_Jx4a65c_elementData_915e3 (l := l) (D := D) (cs := cs) (df := df) (hh := hh) (H.size) a i ha hd (by omega) (by omega) (by omega)) (cwV 1 hts gJx4a65c_get_915e3_Jx4a65c_elementData_915e3 rfl rfl rfl (by decide +kernel) ⟨by decide, by decide⟩) (m_preV (r := (RJx4a65c, TJx4a65c, 3)) hE hV hS hA ha rfl) rfl rfl hl.1 rfl (lv_room (by first | exact Nat.le_of_ble_eq_true rfl | simp [rf_cat, ct_ref, ct_int, ct_null, ct_long])) dJx4a65c_get_915e3_11 ⟨by decide, by decide⟩) hV hS hA (fun r h1 H locs hV hS hp _ => ?_)
  obtain ⟨e1, e2⟩ := hp
  subst e2
  rw [e1] at hV; clear e1
  exact m_aret (v := (f i)) hx hb hr hlocks (Or.inl ⟨_, rfl⟩) hV hS (⟨rfl, hy⟩) dJx4a65c_get_915e3_14

set_option maxHeartbeats 4000000 in
set_option maxRecDepth 100000 in
theorem c_Jxa1e45_init_da8c8 {l : Launch} {D : va_G} {cs : mC} {df : Nat} {hh : mH}  (sz : Nat) (a : Nat) : Met l yJxa1e45_init_da8c8 wsJxa1e45_init_da8c8 ({ frames := 1, cells := 0, slots := 0, locals := 12 }) (mPre [.ref a] D cs df hh sz) (va_Qv ((fun (h1 : mH) => h1 = hh)) (mB D hh sz) (mA hh sz)) 0 0 (mA hh sz) := by
  refine Met.ofW (cc := cJxa1e45_init_da8c8) (maxL := 1) (ret := none) (by decide) rfl ?_
  intro p e s m args below meth c s₁ B0 hml hv
  obtain ⟨hargs, hsz, hV, hE⟩ := hv
  subst hsz
  have hx := B0.exec
  have hb := B0.bytes
  have hr := B0.returns
  have hlocks := B0.notSynchronized
  have hts := atoms_spec (ws := wsJxa1e45_init_da8c8) B0.pre
  have hown : s.vm.findClass RJxa1e45 = some m.cls := findClass_of_methodNamed B0.named
  have hK := hE.1.1
  have hA : ∀ q : Nat, s.heap.size ≤ q → mA hh s.heap.size q := mA.top
  have hS : va_S (mA hh s.heap.size) s.heap s.heap [] := va_S.rf
  have hl := lv_entry ([.ref a]) (n := 1) (by first | exact Nat.le_of_ble_eq_true rfl | simp [lg_sl, rf_cat, ct_ref, ct_int, ct_null, ct_long])
  have hent := lg_entry_eq m ([.ref a]) 1
  rw [← hargs] at hent
  rw [hent]
  generalize (lg_sl ([.ref a]) ++ List.replicate (1 - (lg_sl ([.ref a])).length) Slot.unset).toArray = ls at hl ⊢
  replace hl : lv_has ls 1 [(0, .ref a)] := hl
  refine lv_aload_n hx hb dJxa1e45_init_da8c8_0 rfl (lv_at hl 0 rfl) ?_
  refine W.objInit hx hb hown (hts (.methodLink RJxa1e45 1 objectInit) (by decide +kernel)) (hts (.instanceMethod objectInit) (by decide +kernel)) (hts (.code objectInit ⟨#[0xb1]⟩ 1 none) (by decide +kernel)) rfl (by rw [hml]; exact hl.1) rfl dJxa1e45_init_da8c8_1 (by decide) (Nat.le_of_ble_eq_true rfl) ?_
  refine W.eq (g2 := F0 m 4 ls _) rfl ?_
  exact m_vret hx hb hr hlocks hV hS (rfl) dJxa1e45_init_da8c8_4
set_option maxHeartbeats 4000000 in
set_option maxRecDepth 100000 in
theorem c_Jxc12de_init_da8c8 {l : Launch} {D : va_G} {cs : mC} {df : Nat} {hh : mH} {m0 z0 : Int32} {v0 : Option Nat} (sz : Nat) (a : Nat) (ha : hh a = some (.inr (2, [.int m0, va_rf v0, .int z0]))) : Met l yJxc12de_init_da8c8 wsJxc12de_init_da8c8 ({ frames := 2, cells := 0, slots := 0, locals := 32 }) (mPre [.ref a] D cs df hh sz) (va_Qv ((fun (h1 : mH) => h1 = (mu hh a (.inr (2, [.int 0, va_rf v0, .int z0]))))) (mB D hh sz) (mA hh sz)) 0 0 (mA hh sz) := by
  refine Met.ofW (cc := cJxc12de_init_da8c8) (maxL := 1) (ret := none) (by decide) rfl ?_
  intro p e s m args below meth c s₁ B0 hml hv
  obtain ⟨hargs, hsz, hV, hE⟩ := hv
  subst hsz
  have hx := B0.exec
  have hb := B0.bytes
  have hr := B0.returns
  have hlocks := B0.notSynchronized
  have hts := atoms_spec (ws := wsJxc12de_init_da8c8) B0.pre
  have hown : s.vm.findClass RJxc12de = some m.cls := findClass_of_methodNamed B0.named
  have hK := hE.1.1
  have hA : ∀ q : Nat, s.heap.size ≤ q → mA hh s.heap.size q := mA.top
  have hS : va_S (mA hh s.heap.size) s.heap s.heap [] := va_S.rf
  have k7 : (Cond.fieldLink RJxc12de 7 "java/util/AbstractList" "modCount" "I").before args s = true := hts _ (by decide +kernel)
  have hi_Jx4a65c : ∀ w ∈ u_ws RJx4a65c TJx4a65c 3, w ∈ wsJxc12de_init_da8c8 := by decide +kernel
  have hl := lv_entry ([.ref a]) (n := 1) (by first | exact Nat.le_of_ble_eq_true rfl | simp [lg_sl, rf_cat, ct_ref, ct_int, ct_null, ct_long])
  have hent := lg_entry_eq m ([.ref a]) 1
  rw [← hargs] at hent
  rw [hent]
  generalize (lg_sl ([.ref a]) ++ List.replicate (1 - (lg_sl ([.ref a])).length) Slot.unset).toArray = ls at hl ⊢
  replace hl : lv_has ls 1 [(0, .ref a)] := hl
  refine lv_aload_n hx hb dJxc12de_init_da8c8_0 rfl (lv_at hl 0 rfl) ?_
  refine m_callv (va_runI (As := []) (rest := []) ⟨hx, hb, hml, hown, hts⟩ (c_Jxa1e45_init_da8c8 (l := l) (D := D) (cs := cs) (df := df) (hh := hh) (s.heap.size) a) (cwI 0 hts gJxc12de_init_da8c8_Jxa1e45_init_da8c8 rfl rfl rfl (hts (.initialized RJxa1e45) (by decide +kernel)) (hts (.methodLink RJxc12de 1 yJxa1e45_init_da8c8) (by decide +kernel)) (hts (.instanceMethod yJxa1e45_init_da8c8) (by decide +kernel)) rfl (by decide +kernel) ⟨by decide, by decide⟩) (m_preS hE hV hS hA) rfl rfl hl.1 rfl (lv_room (by first | exact Nat.le_of_ble_eq_true rfl | simp [rf_cat, ct_ref, ct_int, ct_null, ct_long])) dJxc12de_init_da8c8_1 ⟨by decide, by decide⟩) hV hS hA (fun h1 H locs hV hS hp _ => ?_)
  have e1 := hp
  rw [e1] at hV; clear e1
  refine lv_aload_n hx hb dJxc12de_init_da8c8_4 rfl (lv_at hl 0 rfl) ?_
  refine lv_iconst (v := 0) hx hb dJxc12de_init_da8c8_5 (by decide) ?_
  refine m_put (C := RJx4a65c) (T := TJx4a65c) (N := 3) (v := .int 0) (Rp := fun h8 => h8 = mu hh a (.inr (2, [.int 0, va_rf v0, .int z0]))) hx hb hts hi_Jx4a65c tyJx4a65c tyJx4a65c_ok nmJx4a65c hown hK hV hS 0 ⟨_, ha, Nat.le_of_ble_eq_true rfl, rfl⟩ rfl (by decide) k7 (fun _ h9 => h9) rfl (tyJx4a65c_ok 0 (by decide)) rfl rfl dJxc12de_init_da8c8_6 (fun h9 H locs hV hS e9 => ?_)
  subst e9
  exact m_vret hx hb hr hlocks hV hS (rfl) dJxc12de_init_da8c8_9
set_option maxHeartbeats 4000000 in
set_option maxRecDepth 100000 in
theorem c_Jx4a65c_init_da8c8 {l : Launch} {D : va_G} {cs : mC} {df : Nat} {hh : mH} {m0 z0 : Int32} {v0 : Option Nat} (sz : Nat) (a : Nat) (ha : hh a = some (.inr (2, [.int m0, va_rf v0, .int z0]))) : Met l yJx4a65c_init_da8c8 wsJx4a65c_init_da8c8 ({ frames := 3, cells := 0, slots := 0, locals := 52 }) (mPre [.ref a] D cs df hh sz) (va_Qv ((fun (h1 : mH) => h1 = (mu hh a (.inr (2, [.int 0, .ref df, .int z0]))))) (mB D hh sz) (mA hh sz)) 0 0 (mA hh sz) := by
  refine Met.ofW (cc := cJx4a65c_init_da8c8) (maxL := 1) (ret := none) (by decide) rfl ?_
  intro p e s m args below meth c s₁ B0 hml hv
  obtain ⟨hargs, hsz, hV, hE⟩ := hv
  subst hsz
  have hx := B0.exec
  have hb := B0.bytes
  have hr := B0.returns
  have hlocks := B0.notSynchronized
  have hts := atoms_spec (ws := wsJx4a65c_init_da8c8) B0.pre
  have hown : s.vm.findClass RJx4a65c = some m.cls := findClass_of_methodNamed B0.named
  have hK := hE.1.1
  have hA : ∀ q : Nat, s.heap.size ≤ q → mA hh s.heap.size q := mA.top
  have hS : va_S (mA hh s.heap.size) s.heap s.heap [] := va_S.rf
  have k39 : (Cond.fieldLink RJx4a65c 39 "java/util/ArrayList" "DEFAULTCAPACITY_EMPTY_ELEMENTDATA" "[Ljava/lang/Object;").before args s = true := hts _ (by decide +kernel)
  have k9 : (Cond.fieldLink RJx4a65c 9 "java/util/ArrayList" "elementData" "[Ljava/lang/Object;").before args s = true := hts _ (by decide +kernel)
  have hi_Jx4a65c : ∀ w ∈ u_ws RJx4a65c TJx4a65c 3, w ∈ wsJx4a65c_init_da8c8 := by decide +kernel
  have hl := lv_entry ([.ref a]) (n := 1) (by first | exact Nat.le_of_ble_eq_true rfl | simp [lg_sl, rf_cat, ct_ref, ct_int, ct_null, ct_long])
  have hent := lg_entry_eq m ([.ref a]) 1
  rw [← hargs] at hent
  rw [hent]
  generalize (lg_sl ([.ref a]) ++ List.replicate (1 - (lg_sl ([.ref a])).length) Slot.unset).toArray = ls at hl ⊢
  replace hl : lv_has ls 1 [(0, .ref a)] := hl
  refine lv_aload_n hx hb dJx4a65c_init_da8c8_0 rfl (lv_at hl 0 rfl) ?_
  refine m_callv (va_runI (As := []) (rest := []) ⟨hx, hb, hml, hown, hts⟩ (c_Jxc12de_init_da8c8 (l := l) (D := D) (cs := cs) (df := df) (hh := hh) (s.heap.size) a ha) (cwI 0 hts gJx4a65c_init_da8c8_Jxc12de_init_da8c8 rfl rfl rfl (hts (.initialized RJxc12de) (by decide +kernel)) (hts (.methodLink RJx4a65c 1 yJxc12de_init_da8c8) (by decide +kernel)) (hts (.instanceMethod yJxc12de_init_da8c8) (by decide +kernel)) rfl (by decide +kernel) ⟨by decide, by decide⟩) (m_preS hE hV hS hA) rfl rfl hl.1 rfl (lv_room (by first | exact Nat.le_of_ble_eq_true rfl | simp [rf_cat, ct_ref, ct_int, ct_null, ct_long])) dJx4a65c_init_da8c8_1 ⟨by decide, by decide⟩) hV hS hA (fun h1 H locs hV hS hp _ => ?_)
  have e1 := hp
  rw [e1] at hV; clear e1
  refine lv_aload_n hx hb dJx4a65c_init_da8c8_4 rfl (lv_at hl 0 rfl) ?_
  refine va_gets hx hb hE.2.2.2.1 hS hown k39 (fun _ h9 => h9) dJx4a65c_init_da8c8_5 ?_
  refine m_put (C := RJx4a65c) (T := TJx4a65c) (N := 3) (v := .ref df) (Rp := fun h8 => h8 = mu (mu hh a (.inr (2, [.int 0, va_rf v0, .int z0]))) a (.inr (2, [.int 0, .ref df, .int z0]))) hx hb hts hi_Jx4a65c tyJx4a65c tyJx4a65c_ok nmJx4a65c hown hK hV hS 1 ⟨_, (mu_s _ _ _), Nat.le_of_ble_eq_true rfl, rfl⟩ rfl (by decide) k9 (fun _ h9 => h9) rfl (tyJx4a65c_ok 1 (by decide)) rfl rfl dJx4a65c_init_da8c8_8 (fun h9 H locs hV hS e9 => ?_)
  subst e9
  exact m_vret hx hb hr hlocks hV hS (m_mm) dJx4a65c_init_da8c8_11
set_option maxHeartbeats 4000000 in
set_option maxRecDepth 100000 in
theorem c_J8_newLength_cabcc {l : Launch} {D : va_G} {cs : mC} {df : Nat} {hh : mH}  (sz : Nat) (n : Nat) (x1 : Nat) (x2 : Nat) (hn : n ≤ 1000) (h1 : x1 ≤ 1000) (h2 : x2 ≤ 1000) (h3 : 1 ≤ x1) : Met l yJ8_newLength_cabcc wsJ8_newLength_cabcc ({ frames := 1, cells := 0, slots := 0, locals := 30 }) (mPre [.int (nI n), .int (nI x1), .int (nI x2)] D cs df hh sz) (va_Qi ((fun (r : Int32) (h1 : mH) => h1 = hh ∧ r = nI (n + (if x1 < x2 then x2 else x1)))) (mB D hh sz) (mA hh sz)) 0 0 (mA hh sz) := by
  refine Met.ofW (cc := cJ8_newLength_cabcc) (maxL := 4) (ret := (some .int)) (by decide) rfl ?_
  intro p e s m args below meth c s₁ B0 hml hv
  obtain ⟨hargs, hsz, hV, hE⟩ := hv
  subst hsz
  have hx := B0.exec
  have hb := B0.bytes
  have hr := B0.returns
  have hlocks := B0.notSynchronized
  have hts := atoms_spec (ws := wsJ8_newLength_cabcc) B0.pre
  have hown : s.vm.findClass RJ8 = some m.cls := findClass_of_methodNamed B0.named
  have hK := hE.1.1
  have hA : ∀ q : Nat, s.heap.size ≤ q → mA hh s.heap.size q := mA.top
  have hS : va_S (mA hh s.heap.size) s.heap s.heap [] := va_S.rf
  have kk200 : (Cond.constant RJ8 200 (2147483639)).before args s = true := hts _ (by decide +kernel)
  have hl := lv_entry ([.int (nI n), .int (nI x1), .int (nI x2)]) (n := 4) (by first | exact Nat.le_of_ble_eq_true rfl | simp [lg_sl, rf_cat, ct_ref, ct_int, ct_null, ct_long])
  have hent := lg_entry_eq m ([.int (nI n), .int (nI x1), .int (nI x2)]) 4
  rw [← hargs] at hent
  rw [hent]
  generalize (lg_sl ([.int (nI n), .int (nI x1), .int (nI x2)]) ++ List.replicate (4 - (lg_sl ([.int (nI n), .int (nI x1), .int (nI x2)])).length) Slot.unset).toArray = ls at hl ⊢
  replace hl : lv_has ls 4 [(0, .int (nI n)), (1, .int (nI x1)), (2, .int (nI x2))] := hl
  have hmx : (if x1 < x2 then x2 else x1) ≤ 1000 := by split <;> omega
  have hmy : 1 ≤ (if x1 < x2 then x2 else x1) := by split <;> omega
  refine lv_iload_n hx hb dJ8_newLength_cabcc_0 rfl (lv_at hl 0 rfl) ?_
  refine lv_iload_n hx hb dJ8_newLength_cabcc_1 rfl (lv_at hl 1 rfl) ?_
  refine lv_iload_n hx hb dJ8_newLength_cabcc_2 rfl (lv_at hl 2 rfl) ?_
  refine va_mmax hx hb (by rw [hml]; exact hl.1.symm) hown (hts (.methodLink RJ8 194 Lib.Math.max.name) (by decide +kernel)) (hts (.static Lib.Math.max.name) (by decide +kernel)) (hts (.initialized "java/lang/Math") (by decide +kernel)) (hts (.code Lib.Math.max.name Lib.Math.max.code 2 (some .int)) (by decide +kernel)) (by decide) (by first | exact Nat.le_of_ble_eq_true rfl | decide | (simp [rf_cat, ct_ref, ct_int, ct_null, ct_long]; done)) (by decide) (by decide) dJ8_newLength_cabcc_3 ?_
  refine m_topi (y := nI (if x1 < x2 then x2 else x1)) (nI_max (by omega) (by omega)) ?_
  refine lv_iadd hx hb dJ8_newLength_cabcc_6 ?_
  refine m_topi (y := nI (n + (if x1 < x2 then x2 else x1))) (nI_add n (if x1 < x2 then x2 else x1)) ?_
  refine lv_istore_n (lv' := [(3, .int (nI (n + (if x1 < x2 then x2 else x1)))), (0, .int (nI n)), (1, .int (nI x1)), (2, .int (nI x2))]) hx hb dJ8_newLength_cabcc_7 rfl hl (by decide) rfl (fun ls hl => ?_)
  refine lv_iconst (v := 0) hx hb dJ8_newLength_cabcc_8 (by decide) ?_
  refine lv_iload_n hx hb dJ8_newLength_cabcc_9 rfl (lv_at hl 0 rfl) ?_
  refine lv_icmp_ge (tgt := 21) hx hb dJ8_newLength_cabcc_10 (by decide) (fun c10 => ?_) (fun c10 => ?_)
  · replace c10 : (n + (if x1 < x2 then x2 else x1)) ≤ 0 := (nI_leI (a := (n + (if x1 < x2 then x2 else x1))) (b := 0) (by omega) (by omega)).mp c10
    exfalso; omega
  · replace c10 : ¬ (n + (if x1 < x2 then x2 else x1)) ≤ 0 := fun q9 => c10 ((nI_leI (a := (n + (if x1 < x2 then x2 else x1))) (b := 0) (by omega) (by omega)).mpr q9)
    refine lv_iload_n hx hb dJ8_newLength_cabcc_13 rfl (lv_at hl 0 rfl) ?_
    refine lv_ldc (v := 2147483639) hx hb hown kk200 dJ8_newLength_cabcc_14 ?_
    refine lv_icmp_gt (tgt := 21) hx hb dJ8_newLength_cabcc_16 (by decide) (fun c16 => ?_) (fun c16 => ?_)
    · replace c16 : 2147483639 < (n + (if x1 < x2 then x2 else x1)) := (nI_ltI (a := 2147483639) (b := (n + (if x1 < x2 then x2 else x1))) (by omega) (by omega)).mp c16
      exfalso; omega
    · replace c16 : ¬ 2147483639 < (n + (if x1 < x2 then x2 else x1)) := fun q9 => c16 ((nI_ltI (a := 2147483639) (b := (n + (if x1 < x2 then x2 else x1))) (by omega) (by omega)).mpr q9)
      refine lv_iload_n hx hb dJ8_newLength_cabcc_19 rfl (lv_at hl 0 rfl) ?_
      exact m_iret (v := nI (n + (if x1 < x2 then x2 else x1))) hx hb hr hlocks hV hS (⟨rfl, rfl⟩) dJ8_newLength_cabcc_20
set_option maxHeartbeats 4000000 in
set_option maxRecDepth 100000 in
theorem c_J7_copyOf_6403c {l : Launch} {D : va_G} {cs : mC} {df : Nat} {hh : mH} {n : Nat} {f : Nat → Option Nat} (sz : Nat) (d0 : Nat) (n2 : Nat) (hd : hh d0 = some (.inl (cs.2.2.2.2.1, n, .inr (.inr (.inr (.inr f)))))) (hn : n ≤ n2) (hn2 : n2 ≤ 200) (hel : ∀ j, j < n → ∀ y, f j = some y → isEl hh y) : Met l yJ7_copyOf_6403c wsJ7_copyOf_6403c ({ frames := 1, cells := 1, slots := 200, locals := 60 }) (mPre [.ref d0, .int (nI n2), .ref cs.2.2.2.2.2] D cs df hh sz) (va_Qq ((fun (r : Option Nat) (h1 : mH) => ∃ q7 : Nat, hh q7 = none ∧ h1 = (mu hh q7 (.inl (cs.2.2.2.2.1, n2, .inr (.inr (.inr (.inr (va_cpy f (fun _ => none) 0 0 n))))))) ∧ r = (some q7))) (mB D hh sz) (mA hh sz)) 1 200 (mA hh sz) := by
  refine Met.ofW (cc := cJ7_copyOf_6403c) (maxL := 4) (ret := (some (.array (.object "java/lang/Object")))) (by decide) rfl ?_
  intro p e s m args below meth c s₁ B0 hml hv
  obtain ⟨hargs, hsz, hV, hE⟩ := hv
  subst hsz
  have hx := B0.exec
  have hb := B0.bytes
  have hr := B0.returns
  have hlocks := B0.notSynchronized
  have hts := atoms_spec (ws := wsJ7_copyOf_6403c) B0.pre
  have hown : s.vm.findClass RJ7 = some m.cls := findClass_of_methodNamed B0.named
  have hK := hE.1.1
  have hA : ∀ q : Nat, s.heap.size ≤ q → mA hh s.heap.size q := mA.top
  have hS : va_S (mA hh s.heap.size) s.heap s.heap [] := va_S.rf
  have kc110 : (Cond.classLink RJ7 110 "[Ljava/lang/Object;").before args s = true := hts _ (by decide +kernel)
  have kc2 : (Cond.classLink RJ7 2 "java/lang/Object").before args s = true := hts _ (by decide +kernel)
  have hl := lv_entry ([.ref d0, .int (nI n2), .ref cs.2.2.2.2.2]) (n := 4) (by first | exact Nat.le_of_ble_eq_true rfl | simp [lg_sl, rf_cat, ct_ref, ct_int, ct_null, ct_long])
  have hent := lg_entry_eq m ([.ref d0, .int (nI n2), .ref cs.2.2.2.2.2]) 4
  rw [← hargs] at hent
  rw [hent]
  generalize (lg_sl ([.ref d0, .int (nI n2), .ref cs.2.2.2.2.2]) ++ List.replicate (4 - (lg_sl ([.ref d0, .int (nI n2), .ref cs.2.2.2.2.2])).length) Slot.unset).toArray = ls at hl ⊢
  replace hl : lv_has ls 4 [(0, .ref d0), (1, .int (nI n2)), (2, .ref cs.2.2.2.2.2)] := hl
  refine lv_aload_n hx hb dJ7_copyOf_6403c_0 rfl (lv_at hl 2 rfl) ?_
  refine va_ldcM hx hb hown kc110 hE.1.2.2.2.2.2.1 dJ7_copyOf_6403c_1 ?_
  refine lv_acmp_ne (rx := (some cs.2.2.2.2.2)) (ry := (some cs.2.2.2.2.2)) (tgt := 13) hx hb dJ7_copyOf_6403c_3 (by decide) (fun c3 => ?_) (fun c3 => ?_)
  · exact absurd rfl c3
  · refine lv_iload_n hx hb dJ7_copyOf_6403c_6 rfl (lv_at hl 1 rfl) ?_
    refine m_newq hx hb hown kc2 hE.1.2.2.2.2.2.2.2.1 hK hV hS hA 4 rfl (N' := n2) (nI_pos (by omega)) (nI_clamp (by omega)) (by omega) (by decide) (by show 0 + n2 ≤ 200; omega) dJ7_copyOf_6403c_7 (fun q7 H eq7 hV hS => ?_)
    refine lv_goto (tgt := 24) hx hb dJ7_copyOf_6403c_10 (by decide) ?_
    refine lv_astore_n (lv' := [(3, .ref q7), (0, .ref d0), (1, .int (nI n2)), (2, .ref cs.2.2.2.2.2)]) hx hb dJ7_copyOf_6403c_24 rfl hl (by decide) rfl (fun ls hl => ?_)
    refine lv_aload_n hx hb dJ7_copyOf_6403c_25 rfl (lv_at hl 1 rfl) ?_
    refine lv_iconst (v := 0) hx hb dJ7_copyOf_6403c_26 (by decide) ?_
    refine lv_aload_n hx hb dJ7_copyOf_6403c_27 rfl (lv_at hl 0 rfl) ?_
    refine lv_iconst (v := 0) hx hb dJ7_copyOf_6403c_28 (by decide) ?_
    refine lv_aload_n hx hb dJ7_copyOf_6403c_29 rfl (lv_at hl 1 rfl) ?_
    refine m_alen hx hb hK hV 4 ((mu_n (m_fresh eq7 hd)).trans hd) rfl (v := nI n) rfl dJ7_copyOf_6403c_30 ?_
    refine lv_iload_n hx hb dJ7_copyOf_6403c_31 rfl (lv_at hl 2 rfl) ?_
    refine va_mmin hx hb (by rw [hml]; exact hl.1.symm) hown (hts (.methodLink RJ7 304 Lib.Math.min.name) (by decide +kernel)) (hts (.static Lib.Math.min.name) (by decide +kernel)) (hts (.initialized "java/lang/Math") (by decide +kernel)) (hts (.code Lib.Math.min.name Lib.Math.min.code 2 (some .int)) (by decide +kernel)) (by decide) (by first | exact Nat.le_of_ble_eq_true rfl | decide | (simp [rf_cat, ct_ref, ct_int, ct_null, ct_long]; done)) (by decide) (by show 0 + n2 ≤ 200; omega) dJ7_copyOf_6403c_32 ?_
    refine m_topi (y := nI n) ((nI_min (by omega) (by omega)).trans (congrArg nI (if_neg (by omega)))) ?_
    have w1 : ((0 : Int32)).toNatClampNeg = 0 := by decide
    have w2 : ((0 : Int32)).toNatClampNeg = 0 := by decide
    have w3 : ((nI n : Int32)).toNatClampNeg = n := nI_clamp (by omega)
    refine m_copy hx hb (by rw [hml]; exact hl.1.symm) hown (hts (.methodLink RJ7 150 arraycopyName) (by decide +kernel)) (hts (.native arraycopyName) (by decide +kernel)) (hts (.static arraycopyName) (by decide +kernel)) (hts (.initialized "java/lang/System") (by decide +kernel)) hK hV hS 4 (n := nI n) (sp := 0) (dp := 0) ((mu_n (m_fresh eq7 hd)).trans hd) (mu_s _ _ _) rfl (by decide) (by decide) (nI_pos (by omega)) (by rw [w1, w3]; omega) (by rw [w2, w3]; omega) (by rw [w1, w3]; exact (fun j9 hj9 y9 hy9 => m_any hE hV (isEl_new eq7 (hel j9 hj9 y9 (by simpa using hy9))))) (by decide) (by decide) dJ7_copyOf_6403c_35 (fun H locs hV hS => ?_)
    simp only [w1, w2, w3] at hV; clear w1 w2 w3
    refine lv_aload_n hx hb dJ7_copyOf_6403c_38 rfl (lv_at hl 0 rfl) ?_
    refine W.widen (k := 1) (n := 200) (by decide) (by first | decide | omega) ?_
    exact m_aret (v := (some q7)) hx hb hr hlocks (Or.inr ⟨_, rfl⟩) hV hS (⟨q7, eq7, m_mm, rfl⟩) dJ7_copyOf_6403c_39
set_option maxHeartbeats 4000000 in
set_option maxRecDepth 100000 in
theorem c_J7_copyOf_1904c {l : Launch} {D : va_G} {cs : mC} {df : Nat} {hh : mH} {n : Nat} {f : Nat → Option Nat} (sz : Nat) (d0 : Nat) (n2 : Nat) (hd : hh d0 = some (.inl (cs.2.2.2.2.1, n, .inr (.inr (.inr (.inr f)))))) (hn : n ≤ n2) (hn2 : n2 ≤ 200) (hel : ∀ j, j < n → ∀ y, f j = some y → isEl hh y) : Met l yJ7_copyOf_1904c wsJ7_copyOf_1904c ({ frames := 2, cells := 1, slots := 200, locals := 83 }) (mPre [.ref d0, .int (nI n2)] D cs df hh sz) (va_Qq ((fun (r : Option Nat) (h1 : mH) => ∃ q7_6 : Nat, hh q7_6 = none ∧ h1 = (mu hh q7_6 (.inl (cs.2.2.2.2.1, n2, .inr (.inr (.inr (.inr (va_cpy f (fun _ => none) 0 0 n))))))) ∧ r = (some q7_6))) (mB D hh sz) (mA hh sz)) 1 200 (mA hh sz) := by
  refine Met.ofW (cc := cJ7_copyOf_1904c) (maxL := 2) (ret := (some (.array (.object "java/lang/Object")))) (by decide) rfl ?_
  intro p e s m args below meth c s₁ B0 hml hv
  obtain ⟨hargs, hsz, hV, hE⟩ := hv
  subst hsz
  have hx := B0.exec
  have hb := B0.bytes
  have hr := B0.returns
  have hlocks := B0.notSynchronized
  have hts := atoms_spec (ws := wsJ7_copyOf_1904c) B0.pre
  have hown : s.vm.findClass RJ7 = some m.cls := findClass_of_methodNamed B0.named
  have hK := hE.1.1
  have hA : ∀ q : Nat, s.heap.size ≤ q → mA hh s.heap.size q := mA.top
  have hS : va_S (mA hh s.heap.size) s.heap s.heap [] := va_S.rf
  have hl := lv_entry ([.ref d0, .int (nI n2)]) (n := 2) (by first | exact Nat.le_of_ble_eq_true rfl | simp [lg_sl, rf_cat, ct_ref, ct_int, ct_null, ct_long])
  have hent := lg_entry_eq m ([.ref d0, .int (nI n2)]) 2
  rw [← hargs] at hent
  rw [hent]
  generalize (lg_sl ([.ref d0, .int (nI n2)]) ++ List.replicate (2 - (lg_sl ([.ref d0, .int (nI n2)])).length) Slot.unset).toArray = ls at hl ⊢
  replace hl : lv_has ls 2 [(0, .ref d0), (1, .int (nI n2))] := hl
  refine lv_aload_n hx hb dJ7_copyOf_1904c_0 rfl (lv_at hl 0 rfl) ?_
  refine lv_iload_n hx hb dJ7_copyOf_1904c_1 rfl (lv_at hl 1 rfl) ?_
  refine lv_aload_n hx hb dJ7_copyOf_1904c_2 rfl (lv_at hl 0 rfl) ?_
  refine va_getC (C := "[Ljava/lang/Object;") hx hb (by rw [hml]; exact hl.1.symm) hown (hts (.methodLink RJ7 86 ⟨"java/lang/Object", "getClass", "()Ljava/lang/Class;"⟩) (by decide +kernel)) (va_Dc.use hE.1.2.2.2.2.2.2.1) (hts (.selects "[Ljava/lang/Object;" ⟨"java/lang/Object", "getClass", "()Ljava/lang/Class;"⟩ ⟨"java/lang/Object", "getClass", "()Ljava/lang/Class;"⟩) (by decide +kernel)) (hts (.instanceMethod ⟨"java/lang/Object", "getClass", "()Ljava/lang/Class;"⟩) (by decide +kernel)) (hts (.native ⟨"java/lang/Object", "getClass", "()Ljava/lang/Class;"⟩) (by decide +kernel)) hE.1.2.2.2.2.2.1 (m_recvA hE hV hd) (by decide) (Nat.le_of_ble_eq_true rfl) dJ7_copyOf_1904c_3 ?_
  refine m_callq (va_runS (As := [.ref d0, .int (nI n2), .ref cs.2.2.2.2.2]) (rest := []) ⟨hx, hb, hml, hown, hts⟩ (c_J7_copyOf_6403c (l := l) (D := D) (cs := cs) (df := df) (hh := hh) (s.heap.size) d0 n2 hd (by omega) (by omega) (fun j9 hj9 y9 hy9 => (hel j9 hj9 y9 hy9))) (va_cwS 3 hts gJ7_copyOf_1904c_J7_copyOf_6403c rfl rfl rfl (by decide +kernel) ⟨by decide, by decide⟩) (m_preS hE hV hS hA) rfl rfl hl.1 rfl (lv_room (by first | exact Nat.le_of_ble_eq_true rfl | simp [rf_cat, ct_ref, ct_int, ct_null, ct_long])) dJ7_copyOf_1904c_6 ⟨by decide, by decide⟩) hV hS hA (fun r h1 H locs hV hS hp _ => ?_)
  obtain ⟨q7_6, eq7_6, e1, e2⟩ := hp
  subst e2
  rw [e1] at hV; clear e1
  exact m_aret (v := (some q7_6)) hx hb hr hlocks (Or.inr ⟨_, rfl⟩) hV hS (⟨q7_6, eq7_6, rfl, rfl⟩) dJ7_copyOf_1904c_9
set_option maxHeartbeats 4000000 in
set_option maxRecDepth 100000 in
theorem c_Jx4a65c_grow_92f84_B {l : Launch} {D : va_G} {cs : mC} {df : Nat} {hh : mH} {m0 : Int32} {d0 z n : Nat} {f : Nat → Option Nat} (sz : Nat) (a : Nat) (x1 : Nat) (ha : hh a = some (.inr (2, [.int m0, .ref d0, .int (nI z)]))) (hd : hh d0 = some (.inl (cs.2.2.2.2.1, n, .inr (.inr (.inr (.inr f)))))) (h1 : x1 = n + 1) (h0 : 1 ≤ n) (hn : n ≤ 100) (hel : ∀ j, j < n → ∀ y, f j = some y → isEl hh y) : Met l yJx4a65c_grow_92f84 wsJx4a65c_grow_92f84 ({ frames := 3, cells := 1, slots := 200, locals := 104 }) (mPre [.ref a, .int (nI x1)] D cs df hh sz) (va_Qq ((fun (r : Option Nat) (h1 : mH) => ∃ q7_6_37 : Nat, hh q7_6_37 = none ∧ h1 = (mu (mu hh q7_6_37 (.inl (cs.2.2.2.2.1, (n + (if 1 < (n / 2) then (n / 2) else 1)), .inr (.inr (.inr (.inr (va_cpy f (fun _ => none) 0 0 n))))))) a (.inr (2, [.int m0, .ref q7_6_37, .int (nI z)]))) ∧ r = (some q7_6_37))) (mB D hh sz) (mA hh sz)) 1 200 (mA hh sz) := by
  refine Met.ofW (cc := cJx4a65c_grow_92f84) (maxL := 4) (ret := (some (.array (.object "java/lang/Object")))) (by decide) rfl ?_
  intro p e s m args below meth c s₁ B0 hml hv
  obtain ⟨hargs, hsz, hV, hE⟩ := hv
  subst hsz
  have hx := B0.exec
  have hb := B0.bytes
  have hr := B0.returns
  have hlocks := B0.notSynchronized
  have hts := atoms_spec (ws := wsJx4a65c_grow_92f84) B0.pre
  have hown : s.vm.findClass RJx4a65c = some m.cls := findClass_of_methodNamed B0.named
  have hK := hE.1.1
  have hA : ∀ q : Nat, s.heap.size ≤ q → mA hh s.heap.size q := mA.top
  have hS : va_S (mA hh s.heap.size) s.heap s.heap [] := va_S.rf
  have k9 : (Cond.fieldLink RJx4a65c 9 "java/util/ArrayList" "elementData" "[Ljava/lang/Object;").before args s = true := hts _ (by decide +kernel)
  have hi_Jx4a65c : ∀ w ∈ u_ws RJx4a65c TJx4a65c 3, w ∈ wsJx4a65c_grow_92f84 := by decide +kernel
  have hl := lv_entry ([.ref a, .int (nI x1)]) (n := 4) (by first | exact Nat.le_of_ble_eq_true rfl | simp [lg_sl, rf_cat, ct_ref, ct_int, ct_null, ct_long])
  have hent := lg_entry_eq m ([.ref a, .int (nI x1)]) 4
  rw [← hargs] at hent
  rw [hent]
  generalize (lg_sl ([.ref a, .int (nI x1)]) ++ List.replicate (4 - (lg_sl ([.ref a, .int (nI x1)])).length) Slot.unset).toArray = ls at hl ⊢
  replace hl : lv_has ls 4 [(0, .ref a), (1, .int (nI x1))] := hl
  refine lv_aload_n hx hb dJx4a65c_grow_92f84_0 rfl (lv_at hl 0 rfl) ?_
  refine m_get (C := RJx4a65c) (T := TJx4a65c) (N := 3) hx hb hts hi_Jx4a65c hown hK hV 1 (v := .ref d0) ⟨_, ha, rfl⟩ rfl (by decide) k9 (fun _ h9 => h9) dJx4a65c_grow_92f84_1 ?_
  refine m_alen hx hb hK hV 4 hd rfl (v := nI n) rfl dJx4a65c_grow_92f84_4 ?_
  refine lv_istore_n (lv' := [(2, .int (nI n)), (0, .ref a), (1, .int (nI x1))]) hx hb dJx4a65c_grow_92f84_5 rfl hl (by decide) rfl (fun ls hl => ?_)
  refine lv_iload_n hx hb dJx4a65c_grow_92f84_6 rfl (lv_at hl 0 rfl) ?_
  refine lv_if_gt (tgt := 20) hx hb dJx4a65c_grow_92f84_7 (by decide) (fun c7 => ?_) (fun c7 => ?_)
  · replace c7 : 0 < n := (nI_ltI (a := 0) (b := n) (by omega) (by omega)).mp c7
    refine lv_iload_n hx hb dJx4a65c_grow_92f84_20 rfl (lv_at hl 0 rfl) ?_
    refine lv_iload_n hx hb dJx4a65c_grow_92f84_21 rfl (lv_at hl 2 rfl) ?_
    refine lv_iload_n hx hb dJx4a65c_grow_92f84_22 rfl (lv_at hl 0 rfl) ?_
    refine lv_isub hx hb dJx4a65c_grow_92f84_23 ?_
    refine m_topi (y := nI 1) ((pk_sub (by omega)).trans (congrArg nI (by omega))) ?_
    refine lv_iload_n hx hb dJx4a65c_grow_92f84_24 rfl (lv_at hl 0 rfl) ?_
    refine lv_iconst (v := 1) hx hb dJx4a65c_grow_92f84_25 (by decide) ?_
    refine lv_ishr hx hb dJx4a65c_grow_92f84_26 ?_
    refine m_topi (y := nI (n / 2)) (nI_shr n (by omega)) ?_
    refine m_calli (va_runS (As := [.int (nI n), .int (nI 1), .int (nI (n / 2))]) (rest := []) ⟨hx, hb, hml, hown, hts⟩ (c_J8_newLength_cabcc (l := l) (D := D) (cs := cs) (df := df) (hh := hh) (s.heap.size) n 1 (n / 2) (by omega) (by omega) (by omega) (Nat.le_refl 1)) (va_cwS 3 hts gJx4a65c_grow_92f84_J8_newLength_cabcc rfl rfl rfl (by decide +kernel) ⟨by decide, by decide⟩) (m_preS hE hV hS hA) rfl rfl hl.1 rfl (lv_room (by first | exact Nat.le_of_ble_eq_true rfl | simp [rf_cat, ct_ref, ct_int, ct_null, ct_long])) dJx4a65c_grow_92f84_27 ⟨by decide, by decide⟩) hV hS hA (fun r h1 H locs hV hS hp _ => ?_)
    obtain ⟨e1, e2⟩ := hp
    subst e2
    rw [e1] at hV; clear e1
    refine lv_istore_n (lv' := [(3, .int (nI (n + (if 1 < (n / 2) then (n / 2) else 1)))), (2, .int (nI n)), (0, .ref a), (1, .int (nI x1))]) hx hb dJx4a65c_grow_92f84_30 rfl hl (by decide) rfl (fun ls hl => ?_)
    refine lv_aload_n hx hb dJx4a65c_grow_92f84_31 rfl (lv_at hl 2 rfl) ?_
    refine lv_aload_n hx hb dJx4a65c_grow_92f84_32 rfl (lv_at hl 2 rfl) ?_
    refine m_get (C := RJx4a65c) (T := TJx4a65c) (N := 3) hx hb hts hi_Jx4a65c hown hK hV 1 (v := .ref d0) ⟨_, ha, rfl⟩ rfl (by decide) k9 (fun _ h9 => h9) dJx4a65c_grow_92f84_33 ?_
    refine lv_iload_n hx hb dJx4a65c_grow_92f84_36 rfl (lv_at hl 0 rfl) ?_
    refine m_callq (va_runS (As := [.ref d0, .int (nI (n + (if 1 < (n / 2) then (n / 2) else 1)))]) (rest := [.ref a]) ⟨hx, hb, hml, hown, hts⟩ (c_J7_copyOf_1904c (l := l) (D := D) (cs := cs) (df := df) (hh := hh) (H.size) d0 (n + (if 1 < (n / 2) then (n / 2) else 1)) hd (Nat.le_add_right _ _) (by split <;> omega) (fun j9 hj9 y9 hy9 => (hel j9 hj9 y9 hy9))) (va_cwS 2 hts gJx4a65c_grow_92f84_J7_copyOf_1904c rfl rfl rfl (by decide +kernel) ⟨by decide, by decide⟩) (m_preS hE hV hS hA) rfl rfl hl.1 rfl (lv_room (by first | exact Nat.le_of_ble_eq_true rfl | simp [rf_cat, ct_ref, ct_int, ct_null, ct_long])) dJx4a65c_grow_92f84_37 ⟨by decide, by decide⟩) hV hS hA (fun r h1 H locs hV hS hp _ => ?_)
    obtain ⟨q7_6_37, eq7_6_37, e1, e2⟩ := hp
    subst e2
    rw [e1] at hV; clear e1
    refine lv_dup_x1 hx hb dJx4a65c_grow_92f84_40 rfl rfl ?_
    refine m_put (C := RJx4a65c) (T := TJx4a65c) (N := 3) (v := .ref q7_6_37) (Rp := fun h8 => h8 = mu (mu hh q7_6_37 (.inl (cs.2.2.2.2.1, (n + (if 1 < (n / 2) then (n / 2) else 1)), .inr (.inr (.inr (.inr (va_cpy f (fun _ => none) 0 0 n))))))) a (.inr (2, [.int m0, .ref q7_6_37, .int (nI z)]))) hx hb hts hi_Jx4a65c tyJx4a65c tyJx4a65c_ok nmJx4a65c hown hK hV hS 1 ⟨_, ((mu_n (m_fresh eq7_6_37 ha)).trans ha), Nat.le_of_ble_eq_true rfl, rfl⟩ rfl (by decide) k9 (fun _ h9 => h9) rfl (tyJx4a65c_ok 1 (by decide)) rfl rfl dJx4a65c_grow_92f84_41 (fun h9 H locs hV hS e9 => ?_)
    subst e9
    exact m_aret (v := (some q7_6_37)) hx hb hr hlocks (Or.inr ⟨_, rfl⟩) hV hS (⟨q7_6_37, eq7_6_37, rfl, rfl⟩) dJx4a65c_grow_92f84_44
  · replace c7 : ¬ 0 < n := fun q9 => c7 ((nI_ltI (a := 0) (b := n) (by omega) (by omega)).mpr q9)
    exfalso; omega
set_option maxHeartbeats 4000000 in
set_option maxRecDepth 100000 in
theorem c_Jx4a65c_grow_92f84_C {l : Launch} {D : va_G} {cs : mC} {df : Nat} {hh : mH} {m0 : Int32} {z : Nat} (sz : Nat) (a : Nat) (x1 : Nat) (ha : hh a = some (.inr (2, [.int m0, .ref df, .int (nI z)]))) (h1 : x1 ≤ 10) : Met l yJx4a65c_grow_92f84 wsJx4a65c_grow_92f84 ({ frames := 1, cells := 1, slots := 200, locals := 30 }) (mPre [.ref a, .int (nI x1)] D cs df hh sz) (va_Qq ((fun (r : Option Nat) (h1 : mH) => ∃ q52 : Nat, hh q52 = none ∧ h1 = (mu (mu hh q52 (.inl (cs.2.2.2.2.1, 10, .inr (.inr (.inr (.inr (fun _ => none))))))) a (.inr (2, [.int m0, .ref q52, .int (nI z)]))) ∧ r = (some q52))) (mB D hh sz) (mA hh sz)) 1 200 (mA hh sz) := by
  refine Met.ofW (cc := cJx4a65c_grow_92f84) (maxL := 4) (ret := (some (.array (.object "java/lang/Object")))) (by decide) rfl ?_
  intro p e s m args below meth c s₁ B0 hml hv
  obtain ⟨hargs, hsz, hV, hE⟩ := hv
  subst hsz
  have hx := B0.exec
  have hb := B0.bytes
  have hr := B0.returns
  have hlocks := B0.notSynchronized
  have hts := atoms_spec (ws := wsJx4a65c_grow_92f84) B0.pre
  have hown : s.vm.findClass RJx4a65c = some m.cls := findClass_of_methodNamed B0.named
  have hK := hE.1.1
  have hA : ∀ q : Nat, s.heap.size ≤ q → mA hh s.heap.size q := mA.top
  have hS : va_S (mA hh s.heap.size) s.heap s.heap [] := va_S.rf
  have k9 : (Cond.fieldLink RJx4a65c 9 "java/util/ArrayList" "elementData" "[Ljava/lang/Object;").before args s = true := hts _ (by decide +kernel)
  have hi_Jx4a65c : ∀ w ∈ u_ws RJx4a65c TJx4a65c 3, w ∈ wsJx4a65c_grow_92f84 := by decide +kernel
  have k39 : (Cond.fieldLink RJx4a65c 39 "java/util/ArrayList" "DEFAULTCAPACITY_EMPTY_ELEMENTDATA" "[Ljava/lang/Object;").before args s = true := hts _ (by decide +kernel)
  have kc7 : (Cond.classLink RJx4a65c 7 "java/lang/Object").before args s = true := hts _ (by decide +kernel)
  have hl := lv_entry ([.ref a, .int (nI x1)]) (n := 4) (by first | exact Nat.le_of_ble_eq_true rfl | simp [lg_sl, rf_cat, ct_ref, ct_int, ct_null, ct_long])
  have hent := lg_entry_eq m ([.ref a, .int (nI x1)]) 4
  rw [← hargs] at hent
  rw [hent]
  generalize (lg_sl ([.ref a, .int (nI x1)]) ++ List.replicate (4 - (lg_sl ([.ref a, .int (nI x1)])).length) Slot.unset).toArray = ls at hl ⊢
  replace hl : lv_has ls 4 [(0, .ref a), (1, .int (nI x1))] := hl
  refine lv_aload_n hx hb dJx4a65c_grow_92f84_0 rfl (lv_at hl 0 rfl) ?_
  refine m_get (C := RJx4a65c) (T := TJx4a65c) (N := 3) hx hb hts hi_Jx4a65c hown hK hV 1 (v := .ref df) ⟨_, ha, rfl⟩ rfl (by decide) k9 (fun _ h9 => h9) dJx4a65c_grow_92f84_1 ?_
  refine va_tlen hx hb hE.2.2.2.2 hS (v := 0) rfl dJx4a65c_grow_92f84_4 ?_
  refine lv_istore_n (lv' := [(2, .int 0), (0, .ref a), (1, .int (nI x1))]) hx hb dJx4a65c_grow_92f84_5 rfl hl (by decide) rfl (fun ls hl => ?_)
  refine lv_iload_n hx hb dJx4a65c_grow_92f84_6 rfl (lv_at hl 0 rfl) ?_
  refine lv_if_gt (tgt := 20) hx hb dJx4a65c_grow_92f84_7 (by decide) (fun c7 => (absurd c7 (by decide))) (fun c7 => ?_)
  refine lv_aload_n hx hb dJx4a65c_grow_92f84_10 rfl (lv_at hl 1 rfl) ?_
  refine m_get (C := RJx4a65c) (T := TJx4a65c) (N := 3) hx hb hts hi_Jx4a65c hown hK hV 1 (v := .ref df) ⟨_, ha, rfl⟩ rfl (by decide) k9 (fun _ h9 => h9) dJx4a65c_grow_92f84_11 ?_
  refine va_gets hx hb hE.2.2.2.1 hS hown k39 (fun _ h9 => h9) dJx4a65c_grow_92f84_14 ?_
  refine lv_acmp_eq (rx := (some df)) (ry := (some df)) (tgt := 45) hx hb dJx4a65c_grow_92f84_17 (by decide) (fun c17 => ?_) (fun c17 => ?_)
  · refine lv_aload_n hx hb dJx4a65c_grow_92f84_45 rfl (lv_at hl 1 rfl) ?_
    refine lv_bipush (v := 10) hx hb dJx4a65c_grow_92f84_46 (by decide) ?_
    refine lv_iload_n hx hb dJx4a65c_grow_92f84_48 rfl (lv_at hl 2 rfl) ?_
    refine va_mmax hx hb (by rw [hml]; exact hl.1.symm) hown (hts (.methodLink RJx4a65c 79 Lib.Math.max.name) (by decide +kernel)) (hts (.static Lib.Math.max.name) (by decide +kernel)) (hts (.initialized "java/lang/Math") (by decide +kernel)) (hts (.code Lib.Math.max.name Lib.Math.max.code 2 (some .int)) (by decide +kernel)) (by decide) (by first | exact Nat.le_of_ble_eq_true rfl | decide | (simp [rf_cat, ct_ref, ct_int, ct_null, ct_long]; done)) (by decide) (by decide) dJx4a65c_grow_92f84_49 ?_
    refine m_topi (y := nI 10) (show (if (10 : Int32) < nI x1 then nI x1 else 10) = nI 10 from (nI_max (x := 10) (by omega) (by omega)).trans (congrArg nI (if_neg (by omega)))) ?_
    refine m_newq hx hb hown kc7 hE.1.2.2.2.2.2.2.2.1 hK hV hS hA 4 rfl (N' := 10) (nI_pos (by omega)) (nI_clamp (by omega)) (by omega) (by decide) (by decide) dJx4a65c_grow_92f84_52 (fun q52 H eq52 hV hS => ?_)
    refine lv_dup_x1 hx hb dJx4a65c_grow_92f84_55 rfl rfl ?_
    refine m_put (C := RJx4a65c) (T := TJx4a65c) (N := 3) (v := .ref q52) (Rp := fun h8 => h8 = mu (mu hh q52 (.inl (cs.2.2.2.2.1, 10, .inr (.inr (.inr (.inr (fun _ => none))))))) a (.inr (2, [.int m0, .ref q52, .int (nI z)]))) hx hb hts hi_Jx4a65c tyJx4a65c tyJx4a65c_ok nmJx4a65c hown hK hV hS 1 ⟨_, ((mu_n (m_fresh eq52 ha)).trans ha), Nat.le_of_ble_eq_true rfl, rfl⟩ rfl (by decide) k9 (fun _ h9 => h9) rfl (tyJx4a65c_ok 1 (by decide)) rfl rfl dJx4a65c_grow_92f84_56 (fun h9 H locs hV hS e9 => ?_)
    subst e9
    refine W.widen (k := 1) (n := 200) (by decide) (by first | decide | omega) ?_
    exact m_aret (v := (some q52)) hx hb hr hlocks (Or.inr ⟨_, rfl⟩) hV hS (⟨q52, eq52, rfl, rfl⟩) dJx4a65c_grow_92f84_59
  · exact absurd rfl c17
set_option maxHeartbeats 4000000 in
set_option maxRecDepth 100000 in
theorem c_Jx4a65c_grow_d5877_B {l : Launch} {D : va_G} {cs : mC} {df : Nat} {hh : mH} {m0 : Int32} {d0 z n : Nat} {f : Nat → Option Nat} (sz : Nat) (a : Nat) (ha : hh a = some (.inr (2, [.int m0, .ref d0, .int (nI z)]))) (hd : hh d0 = some (.inl (cs.2.2.2.2.1, n, .inr (.inr (.inr (.inr f)))))) (hz : z = n) (h0 : 1 ≤ n) (hn : n ≤ 100) (hel : ∀ j, j < n → ∀ y, f j = some y → isEl hh y) : Met l yJx4a65c_grow_d5877 wsJx4a65c_grow_d5877 ({ frames := 4, cells := 1, slots := 200, locals := 127 }) (mPre [.ref a] D cs df hh sz) (va_Qq ((fun (r : Option Nat) (h1 : mH) => ∃ q7_6_37_7 : Nat, hh q7_6_37_7 = none ∧ h1 = (mu (mu hh q7_6_37_7 (.inl (cs.2.2.2.2.1, (n + (if 1 < (n / 2) then (n / 2) else 1)), .inr (.inr (.inr (.inr (va_cpy f (fun _ => none) 0 0 n))))))) a (.inr (2, [.int m0, .ref q7_6_37_7, .int (nI z)]))) ∧ r = (some q7_6_37_7))) (mB D hh sz) (mA hh sz)) 1 200 (mA hh sz) := by
  refine Met.ofW (cc := cJx4a65c_grow_d5877) (maxL := 1) (ret := (some (.array (.object "java/lang/Object")))) (by decide) rfl ?_
  intro p e s m args below meth c s₁ B0 hml hv
  obtain ⟨hargs, hsz, hV, hE⟩ := hv
  subst hsz
  have hx := B0.exec
  have hb := B0.bytes
  have hr := B0.returns
  have hlocks := B0.notSynchronized
  have hts := atoms_spec (ws := wsJx4a65c_grow_d5877) B0.pre
  have hown : s.vm.findClass RJx4a65c = some m.cls := findClass_of_methodNamed B0.named
  have hK := hE.1.1
  have hA : ∀ q : Nat, s.heap.size ≤ q → mA hh s.heap.size q := mA.top
  have hS : va_S (mA hh s.heap.size) s.heap s.heap [] := va_S.rf
  have k48 : (Cond.fieldLink RJx4a65c 48 "java/util/ArrayList" "size" "I").before args s = true := hts _ (by decide +kernel)
  have hi_Jx4a65c : ∀ w ∈ u_ws RJx4a65c TJx4a65c 3, w ∈ wsJx4a65c_grow_d5877 := by decide +kernel
  have hl := lv_entry ([.ref a]) (n := 1) (by first | exact Nat.le_of_ble_eq_true rfl | simp [lg_sl, rf_cat, ct_ref, ct_int, ct_null, ct_long])
  have hent := lg_entry_eq m ([.ref a]) 1
  rw [← hargs] at hent
  rw [hent]
  generalize (lg_sl ([.ref a]) ++ List.replicate (1 - (lg_sl ([.ref a])).length) Slot.unset).toArray = ls at hl ⊢
  replace hl : lv_has ls 1 [(0, .ref a)] := hl
  refine lv_aload_n hx hb dJx4a65c_grow_d5877_0 rfl (lv_at hl 0 rfl) ?_
  refine lv_aload_n hx hb dJx4a65c_grow_d5877_1 rfl (lv_at hl 0 rfl) ?_
  refine m_get (C := RJx4a65c) (T := TJx4a65c) (N := 3) hx hb hts hi_Jx4a65c hown hK hV 2 (v := .int (nI z)) ⟨_, ha, rfl⟩ rfl (by decide) k48 (fun _ h9 => h9) dJx4a65c_grow_d5877_2 ?_
  refine lv_iconst (v := 1) hx hb dJx4a65c_grow_d5877_5 (by decide) ?_
  refine lv_iadd hx hb dJx4a65c_grow_d5877_6 ?_
  refine m_topi (y := nI (z + 1)) (nI_add z 1) ?_
  refine m_callq (va_runV (As := [.int (nI (z + 1))]) (rest := []) ⟨hx, hb, hml, hown, hts⟩ (c_Jx4a65c_grow_92f84_B (l := l) (D := D) (cs := cs) (df := df) (hh := hh) (s.heap.size) a (z + 1) ha hd (by omega) (by omega) (by omega) (fun j9 hj9 y9 hy9 => (hel j9 hj9 y9 hy9))) (cwV 1 hts gJx4a65c_grow_d5877_Jx4a65c_grow_92f84 rfl rfl rfl (by decide +kernel) ⟨by decide, by decide⟩) (m_preV (r := (RJx4a65c, TJx4a65c, 3)) hE hV hS hA ha rfl) rfl rfl hl.1 rfl (lv_room (by first | exact Nat.le_of_ble_eq_true rfl | simp [rf_cat, ct_ref, ct_int, ct_null, ct_long])) dJx4a65c_grow_d5877_7 ⟨by decide, by decide⟩) hV hS hA (fun r h1 H locs hV hS hp _ => ?_)
  obtain ⟨q7_6_37_7, eq7_6_37_7, e1, e2⟩ := hp
  subst e2
  rw [e1] at hV; clear e1
  exact m_aret (v := (some q7_6_37_7)) hx hb hr hlocks (Or.inr ⟨_, rfl⟩) hV hS (⟨q7_6_37_7, eq7_6_37_7, rfl, rfl⟩) dJx4a65c_grow_d5877_10
set_option maxHeartbeats 4000000 in
set_option maxRecDepth 100000 in
theorem c_Jx4a65c_grow_d5877_C {l : Launch} {D : va_G} {cs : mC} {df : Nat} {hh : mH} {m0 : Int32} {z : Nat} (sz : Nat) (a : Nat) (ha : hh a = some (.inr (2, [.int m0, .ref df, .int (nI z)]))) (hz : z = 0) : Met l yJx4a65c_grow_d5877 wsJx4a65c_grow_d5877 ({ frames := 2, cells := 1, slots := 200, locals := 53 }) (mPre [.ref a] D cs df hh sz) (va_Qq ((fun (r : Option Nat) (h1 : mH) => ∃ q52_7 : Nat, hh q52_7 = none ∧ h1 = (mu (mu hh q52_7 (.inl (cs.2.2.2.2.1, 10, .inr (.inr (.inr (.inr (fun _ => none))))))) a (.inr (2, [.int m0, .ref q52_7, .int (nI z)]))) ∧ r = (some q52_7))) (mB D hh sz) (mA hh sz)) 1 200 (mA hh sz) := by
  refine Met.ofW (cc := cJx4a65c_grow_d5877) (maxL := 1) (ret := (some (.array (.object "java/lang/Object")))) (by decide) rfl ?_
  intro p e s m args below meth c s₁ B0 hml hv
  obtain ⟨hargs, hsz, hV, hE⟩ := hv
  subst hsz
  have hx := B0.exec
  have hb := B0.bytes
  have hr := B0.returns
  have hlocks := B0.notSynchronized
  have hts := atoms_spec (ws := wsJx4a65c_grow_d5877) B0.pre
  have hown : s.vm.findClass RJx4a65c = some m.cls := findClass_of_methodNamed B0.named
  have hK := hE.1.1
  have hA : ∀ q : Nat, s.heap.size ≤ q → mA hh s.heap.size q := mA.top
  have hS : va_S (mA hh s.heap.size) s.heap s.heap [] := va_S.rf
  have k48 : (Cond.fieldLink RJx4a65c 48 "java/util/ArrayList" "size" "I").before args s = true := hts _ (by decide +kernel)
  have hi_Jx4a65c : ∀ w ∈ u_ws RJx4a65c TJx4a65c 3, w ∈ wsJx4a65c_grow_d5877 := by decide +kernel
  have hl := lv_entry ([.ref a]) (n := 1) (by first | exact Nat.le_of_ble_eq_true rfl | simp [lg_sl, rf_cat, ct_ref, ct_int, ct_null, ct_long])
  have hent := lg_entry_eq m ([.ref a]) 1
  rw [← hargs] at hent
  rw [hent]
  generalize (lg_sl ([.ref a]) ++ List.replicate (1 - (lg_sl ([.ref a])).length) Slot.unset).toArray = ls at hl ⊢
  replace hl : lv_has ls 1 [(0, .ref a)] := hl
  refine lv_aload_n hx hb dJx4a65c_grow_d5877_0 rfl (lv_at hl 0 rfl) ?_
  refine lv_aload_n hx hb dJx4a65c_grow_d5877_1 rfl (lv_at hl 0 rfl) ?_
  refine m_get (C := RJx4a65c) (T := TJx4a65c) (N := 3) hx hb hts hi_Jx4a65c hown hK hV 2 (v := .int (nI z)) ⟨_, ha, rfl⟩ rfl (by decide) k48 (fun _ h9 => h9) dJx4a65c_grow_d5877_2 ?_
  refine lv_iconst (v := 1) hx hb dJx4a65c_grow_d5877_5 (by decide) ?_
  refine lv_iadd hx hb dJx4a65c_grow_d5877_6 ?_
  refine m_topi (y := nI (z + 1)) (nI_add z 1) ?_
  refine m_callq (va_runV (As := [.int (nI (z + 1))]) (rest := []) ⟨hx, hb, hml, hown, hts⟩ (c_Jx4a65c_grow_92f84_C (l := l) (D := D) (cs := cs) (df := df) (hh := hh) (s.heap.size) a (z + 1) ha (by omega)) (cwV 1 hts gJx4a65c_grow_d5877_Jx4a65c_grow_92f84 rfl rfl rfl (by decide +kernel) ⟨by decide, by decide⟩) (m_preV (r := (RJx4a65c, TJx4a65c, 3)) hE hV hS hA ha rfl) rfl rfl hl.1 rfl (lv_room (by first | exact Nat.le_of_ble_eq_true rfl | simp [rf_cat, ct_ref, ct_int, ct_null, ct_long])) dJx4a65c_grow_d5877_7 ⟨by decide, by decide⟩) hV hS hA (fun r h1 H locs hV hS hp _ => ?_)
  obtain ⟨q52_7, eq52_7, e1, e2⟩ := hp
  subst e2
  rw [e1] at hV; clear e1
  exact m_aret (v := (some q52_7)) hx hb hr hlocks (Or.inr ⟨_, rfl⟩) hV hS (⟨q52_7, eq52_7, rfl, rfl⟩) dJx4a65c_grow_d5877_10
set_option maxHeartbeats 4000000 in
set_option maxRecDepth 100000 in
theorem c_Jx4a65c_add_72be8_A {l : Launch} {D : va_G} {cs : mC} {df : Nat} {hh : mH} {m0 : Int32} {n : Nat} {f : Nat → Option Nat} (sz : Nat) (a : Nat) (y : Nat) (d0 : Nat) (z : Nat) (ha : hh a = some (.inr (2, [.int m0, .ref d0, .int (nI z)]))) (hd : hh d0 = some (.inl (cs.2.2.2.2.1, n, .inr (.inr (.inr (.inr f)))))) (hz : z < n) (hn : n ≤ 100) (hy : isEl hh y) : Met l yJx4a65c_add_72be8 wsJx4a65c_add_72be8 ({ frames := 0, cells := 1, slots := 200, locals := 0 }) (mPre [.ref a, .ref y, .ref d0, .int (nI z)] D cs df hh sz) (va_Qv ((fun (h1 : mH) => h1 = (mu (mu hh d0 (.inl (cs.2.2.2.2.1, n, .inr (.inr (.inr (.inr (va_up f z (some y)))))))) a (.inr (2, [.int m0, .ref d0, .int (nI (z + 1))]))))) (mB D hh sz) (mA hh sz)) 1 200 (mA hh sz) := by
  refine Met.ofW (cc := cJx4a65c_add_72be8) (maxL := 4) (ret := none) (by decide) rfl ?_
  intro p e s m args below meth c s₁ B0 hml hv
  obtain ⟨hargs, hsz, hV, hE⟩ := hv
  subst hsz
  have hx := B0.exec
  have hb := B0.bytes
  have hr := B0.returns
  have hlocks := B0.notSynchronized
  have hts := atoms_spec (ws := wsJx4a65c_add_72be8) B0.pre
  have hown : s.vm.findClass RJx4a65c = some m.cls := findClass_of_methodNamed B0.named
  have hK := hE.1.1
  have hA : ∀ q : Nat, s.heap.size ≤ q → mA hh s.heap.size q := mA.top
  have hS : va_S (mA hh s.heap.size) s.heap s.heap [] := va_S.rf
  have k48 : (Cond.fieldLink RJx4a65c 48 "java/util/ArrayList" "size" "I").before args s = true := hts _ (by decide +kernel)
  have hi_Jx4a65c : ∀ w ∈ u_ws RJx4a65c TJx4a65c 3, w ∈ wsJx4a65c_add_72be8 := by decide +kernel
  have hl := lv_entry ([.ref a, .ref y, .ref d0, .int (nI z)]) (n := 4) (by first | exact Nat.le_of_ble_eq_true rfl | simp [lg_sl, rf_cat, ct_ref, ct_int, ct_null, ct_long])
  have hent := lg_entry_eq m ([.ref a, .ref y, .ref d0, .int (nI z)]) 4
  rw [← hargs] at hent
  rw [hent]
  generalize (lg_sl ([.ref a, .ref y, .ref d0, .int (nI z)]) ++ List.replicate (4 - (lg_sl ([.ref a, .ref y, .ref d0, .int (nI z)])).length) Slot.unset).toArray = ls at hl ⊢
  replace hl : lv_has ls 4 [(0, .ref a), (1, .ref y), (2, .ref d0), (3, .int (nI z))] := hl
  refine lv_iload_n hx hb dJx4a65c_add_72be8_0 rfl (lv_at hl 3 rfl) ?_
  refine lv_aload_n hx hb dJx4a65c_add_72be8_1 rfl (lv_at hl 2 rfl) ?_
  refine m_alen hx hb hK hV 4 hd rfl (v := nI n) rfl dJx4a65c_add_72be8_2 ?_
  refine lv_icmp_ne (tgt := 11) hx hb dJx4a65c_add_72be8_3 (by decide) (fun c3 => ?_) (fun c3 => ?_)
  · replace c3 : ¬ z = n := fun q9 => c3 ((nI_eq (a := z) (b := n) (by omega) (by omega)).mpr q9)
    refine lv_aload_n hx hb dJx4a65c_add_72be8_11 rfl (lv_at hl 2 rfl) ?_
    refine lv_iload_n hx hb dJx4a65c_add_72be8_12 rfl (lv_at hl 3 rfl) ?_
    refine lv_aload_n hx hb dJx4a65c_add_72be8_13 rfl (lv_at hl 1 rfl) ?_
    refine m_aast (Rp := fun h8 => h8 = mu hh d0 (.inl (cs.2.2.2.2.1, n, .inr (.inr (.inr (.inr (va_up f z (some y)))))))) hx hb hK hV hS 4 (i := nI z) ⟨hd, by rw [nI_clamp (by omega)]⟩ rfl (m_any hE hV hy) (vp_in_nI (by omega) (by omega)) dJx4a65c_add_72be8_14 (fun h9 H locs hV hS e9 => ?_)
    subst e9
    refine lv_aload_n hx hb dJx4a65c_add_72be8_15 rfl (lv_at hl 0 rfl) ?_
    refine lv_iload_n hx hb dJx4a65c_add_72be8_16 rfl (lv_at hl 3 rfl) ?_
    refine lv_iconst (v := 1) hx hb dJx4a65c_add_72be8_17 (by decide) ?_
    refine lv_iadd hx hb dJx4a65c_add_72be8_18 ?_
    refine m_topi (y := nI (z + 1)) (nI_add z 1) ?_
    refine m_put (C := RJx4a65c) (T := TJx4a65c) (N := 3) (v := .int (nI (z + 1))) (Rp := fun h8 => h8 = mu (mu hh d0 (.inl (cs.2.2.2.2.1, n, .inr (.inr (.inr (.inr (va_up f z (some y)))))))) a (.inr (2, [.int m0, .ref d0, .int (nI (z + 1))]))) hx hb hts hi_Jx4a65c tyJx4a65c tyJx4a65c_ok nmJx4a65c hown hK hV hS 2 ⟨_, ((mu_n (m_dif ha hd nofun)).trans ha), Nat.le_of_ble_eq_true rfl, rfl⟩ rfl (by decide) k48 (fun _ h9 => h9) rfl (tyJx4a65c_ok 2 (by decide)) rfl rfl dJx4a65c_add_72be8_19 (fun h9 H locs hV hS e9 => ?_)
    subst e9
    refine W.widen (k := 1) (n := 200) (by decide) (by first | decide | omega) ?_
    exact m_vret hx hb hr hlocks hV hS (rfl) dJx4a65c_add_72be8_22
  · replace c3 : z = n := (nI_eq (a := z) (b := n) (by omega) (by omega)).mp c3
    exfalso; omega
set_option maxHeartbeats 4000000 in
set_option maxRecDepth 100000 in
theorem c_Jx4a65c_add_72be8_B {l : Launch} {D : va_G} {cs : mC} {df : Nat} {hh : mH} {m0 : Int32} {n : Nat} {f : Nat → Option Nat} (sz : Nat) (a : Nat) (y : Nat) (d0 : Nat) (z : Nat) (ha : hh a = some (.inr (2, [.int m0, .ref d0, .int (nI z)]))) (hd : hh d0 = some (.inl (cs.2.2.2.2.1, n, .inr (.inr (.inr (.inr f)))))) (hz : z = n) (h0 : 1 ≤ n) (hn : n ≤ 100) (hel : ∀ j, j < n → ∀ y, f j = some y → isEl hh y) (hy : isEl hh y) : Met l yJx4a65c_add_72be8 wsJx4a65c_add_72be8 ({ frames := 5, cells := 1, slots := 200, locals := 147 }) (mPre [.ref a, .ref y, .ref d0, .int (nI z)] D cs df hh sz) (va_Qv ((fun (h1 : mH) => ∃ q7_6_37_7_7 : Nat, hh q7_6_37_7_7 = none ∧ h1 = (mu (mu (mu (mu hh q7_6_37_7_7 (.inl (cs.2.2.2.2.1, (n + (if 1 < (n / 2) then (n / 2) else 1)), .inr (.inr (.inr (.inr (va_cpy f (fun _ => none) 0 0 n))))))) a (.inr (2, [.int m0, .ref q7_6_37_7_7, .int (nI z)]))) q7_6_37_7_7 (.inl (cs.2.2.2.2.1, (n + (if 1 < (n / 2) then (n / 2) else 1)), .inr (.inr (.inr (.inr (va_up (va_cpy f (fun _ => none) 0 0 n) z (some y)))))))) a (.inr (2, [.int m0, .ref q7_6_37_7_7, .int (nI (z + 1))]))))) (mB D hh sz) (mA hh sz)) 1 200 (mA hh sz) := by
  refine Met.ofW (cc := cJx4a65c_add_72be8) (maxL := 4) (ret := none) (by decide) rfl ?_
  intro p e s m args below meth c s₁ B0 hml hv
  obtain ⟨hargs, hsz, hV, hE⟩ := hv
  subst hsz
  have hx := B0.exec
  have hb := B0.bytes
  have hr := B0.returns
  have hlocks := B0.notSynchronized
  have hts := atoms_spec (ws := wsJx4a65c_add_72be8) B0.pre
  have hown : s.vm.findClass RJx4a65c = some m.cls := findClass_of_methodNamed B0.named
  have hK := hE.1.1
  have hA : ∀ q : Nat, s.heap.size ≤ q → mA hh s.heap.size q := mA.top
  have hS : va_S (mA hh s.heap.size) s.heap s.heap [] := va_S.rf
  have k48 : (Cond.fieldLink RJx4a65c 48 "java/util/ArrayList" "size" "I").before args s = true := hts _ (by decide +kernel)
  have hi_Jx4a65c : ∀ w ∈ u_ws RJx4a65c TJx4a65c 3, w ∈ wsJx4a65c_add_72be8 := by decide +kernel
  have hl := lv_entry ([.ref a, .ref y, .ref d0, .int (nI z)]) (n := 4) (by first | exact Nat.le_of_ble_eq_true rfl | simp [lg_sl, rf_cat, ct_ref, ct_int, ct_null, ct_long])
  have hent := lg_entry_eq m ([.ref a, .ref y, .ref d0, .int (nI z)]) 4
  rw [← hargs] at hent
  rw [hent]
  generalize (lg_sl ([.ref a, .ref y, .ref d0, .int (nI z)]) ++ List.replicate (4 - (lg_sl ([.ref a, .ref y, .ref d0, .int (nI z)])).length) Slot.unset).toArray = ls at hl ⊢
  replace hl : lv_has ls 4 [(0, .ref a), (1, .ref y), (2, .ref d0), (3, .int (nI z))] := hl
  have hcap : 1 ≤ (if 1 < n / 2 then n / 2 else 1) ∧ (if 1 < n / 2 then n / 2 else 1) ≤ 100 := by split <;> omega
  refine lv_iload_n hx hb dJx4a65c_add_72be8_0 rfl (lv_at hl 3 rfl) ?_
  refine lv_aload_n hx hb dJx4a65c_add_72be8_1 rfl (lv_at hl 2 rfl) ?_
  refine m_alen hx hb hK hV 4 hd rfl (v := nI n) rfl dJx4a65c_add_72be8_2 ?_
  refine lv_icmp_ne (tgt := 11) hx hb dJx4a65c_add_72be8_3 (by decide) (fun c3 => ?_) (fun c3 => ?_)
  · replace c3 : ¬ z = n := fun q9 => c3 ((nI_eq (a := z) (b := n) (by omega) (by omega)).mpr q9)
    exfalso; omega
  · replace c3 : z = n := (nI_eq (a := z) (b := n) (by omega) (by omega)).mp c3
    refine lv_aload_n hx hb dJx4a65c_add_72be8_6 rfl (lv_at hl 0 rfl) ?_
    refine m_callq (va_runV (As := []) (rest := []) ⟨hx, hb, hml, hown, hts⟩ (c_Jx4a65c_grow_d5877_B (l := l) (D := D) (cs := cs) (df := df) (hh := hh) (s.heap.size) a ha hd (by omega) (by omega) (by omega) (fun j9 hj9 y9 hy9 => (hel j9 hj9 y9 hy9))) (cwV 0 hts gJx4a65c_add_72be8_Jx4a65c_grow_d5877 rfl rfl rfl (by decide +kernel) ⟨by decide, by decide⟩) (m_preV (r := (RJx4a65c, TJx4a65c, 3)) hE hV hS hA ha rfl) rfl rfl hl.1 rfl (lv_room (by first | exact Nat.le_of_ble_eq_true rfl | simp [rf_cat, ct_ref, ct_int, ct_null, ct_long])) dJx4a65c_add_72be8_7 ⟨by decide, by decide⟩) hV hS hA (fun r h1 H locs hV hS hp _ => ?_)
    obtain ⟨q7_6_37_7_7, eq7_6_37_7_7, e1, e2⟩ := hp
    subst e2
    rw [e1] at hV; clear e1
    refine lv_astore_n (lv' := [(2, .ref q7_6_37_7_7), (0, .ref a), (1, .ref y), (3, .int (nI z))]) hx hb dJx4a65c_add_72be8_10 rfl hl (by decide) rfl (fun ls hl => ?_)
    refine lv_aload_n hx hb dJx4a65c_add_72be8_11 rfl (lv_at hl 0 rfl) ?_
    refine lv_iload_n hx hb dJx4a65c_add_72be8_12 rfl (lv_at hl 3 rfl) ?_
    refine lv_aload_n hx hb dJx4a65c_add_72be8_13 rfl (lv_at hl 2 rfl) ?_
    refine m_aast (Rp := fun h8 => h8 = mu (mu (mu hh q7_6_37_7_7 (.inl (cs.2.2.2.2.1, (n + (if 1 < (n / 2) then (n / 2) else 1)), .inr (.inr (.inr (.inr (va_cpy f (fun _ => none) 0 0 n))))))) a (.inr (2, [.int m0, .ref q7_6_37_7_7, .int (nI z)]))) q7_6_37_7_7 (.inl (cs.2.2.2.2.1, (n + (if 1 < (n / 2) then (n / 2) else 1)), .inr (.inr (.inr (.inr (va_up (va_cpy f (fun _ => none) 0 0 n) z (some y)))))))) hx hb hK hV hS 4 (i := nI z) ⟨((mu_n (Ne.symm (m_fresh eq7_6_37_7_7 ha))).trans (mu_s _ _ _)), by rw [nI_clamp (by omega)]⟩ rfl (m_any hE hV (isEl_set ((mu_n (m_fresh eq7_6_37_7_7 ha)).trans ha) (isEl_new eq7_6_37_7_7 hy))) (vp_in_nI (by omega) (by omega)) dJx4a65c_add_72be8_14 (fun h9 H locs hV hS e9 => ?_)
    subst e9
    refine lv_aload_n hx hb dJx4a65c_add_72be8_15 rfl (lv_at hl 1 rfl) ?_
    refine lv_iload_n hx hb dJx4a65c_add_72be8_16 rfl (lv_at hl 3 rfl) ?_
    refine lv_iconst (v := 1) hx hb dJx4a65c_add_72be8_17 (by decide) ?_
    refine lv_iadd hx hb dJx4a65c_add_72be8_18 ?_
    refine m_topi (y := nI (z + 1)) (nI_add z 1) ?_
    refine m_put (C := RJx4a65c) (T := TJx4a65c) (N := 3) (v := .int (nI (z + 1))) (Rp := fun h8 => h8 = mu (mu (mu (mu hh q7_6_37_7_7 (.inl (cs.2.2.2.2.1, (n + (if 1 < (n / 2) then (n / 2) else 1)), .inr (.inr (.inr (.inr (va_cpy f (fun _ => none) 0 0 n))))))) a (.inr (2, [.int m0, .ref q7_6_37_7_7, .int (nI z)]))) q7_6_37_7_7 (.inl (cs.2.2.2.2.1, (n + (if 1 < (n / 2) then (n / 2) else 1)), .inr (.inr (.inr (.inr (va_up (va_cpy f (fun _ => none) 0 0 n) z (some y)))))))) a (.inr (2, [.int m0, .ref q7_6_37_7_7, .int (nI (z + 1))]))) hx hb hts hi_Jx4a65c tyJx4a65c tyJx4a65c_ok nmJx4a65c hown hK hV hS 2 ⟨_, ((mu_n (m_fresh eq7_6_37_7_7 ha)).trans (mu_s _ _ _)), Nat.le_of_ble_eq_true rfl, rfl⟩ rfl (by decide) k48 (fun _ h9 => h9) rfl (tyJx4a65c_ok 2 (by decide)) rfl rfl dJx4a65c_add_72be8_19 (fun h9 H locs hV hS e9 => ?_)
    subst e9
    exact m_vret hx hb hr hlocks hV hS (⟨q7_6_37_7_7, eq7_6_37_7_7, rfl⟩) dJx4a65c_add_72be8_22
set_option maxHeartbeats 4000000 in
set_option maxRecDepth 100000 in
theorem c_Jx4a65c_add_72be8_C {l : Launch} {D : va_G} {cs : mC} {df : Nat} {hh : mH} {m0 : Int32} (sz : Nat) (a : Nat) (y : Nat) (z : Nat) (ha : hh a = some (.inr (2, [.int m0, .ref df, .int (nI z)]))) (hz : z = 0) (hy : isEl hh y) : Met l yJx4a65c_add_72be8 wsJx4a65c_add_72be8 ({ frames := 3, cells := 1, slots := 200, locals := 73 }) (mPre [.ref a, .ref y, .ref df, .int (nI z)] D cs df hh sz) (va_Qv ((fun (h1 : mH) => ∃ q52_7_7 : Nat, hh q52_7_7 = none ∧ h1 = (mu (mu (mu (mu hh q52_7_7 (.inl (cs.2.2.2.2.1, 10, .inr (.inr (.inr (.inr (fun _ => none))))))) a (.inr (2, [.int m0, .ref q52_7_7, .int (nI z)]))) q52_7_7 (.inl (cs.2.2.2.2.1, 10, .inr (.inr (.inr (.inr (va_up (fun _ => none) z (some y)))))))) a (.inr (2, [.int m0, .ref q52_7_7, .int (nI (z + 1))]))))) (mB D hh sz) (mA hh sz)) 1 200 (mA hh sz) := by
  refine Met.ofW (cc := cJx4a65c_add_72be8) (maxL := 4) (ret := none) (by decide) rfl ?_
  intro p e s m args below meth c s₁ B0 hml hv
  obtain ⟨hargs, hsz, hV, hE⟩ := hv
  subst hsz
  have hx := B0.exec
  have hb := B0.bytes
  have hr := B0.returns
  have hlocks := B0.notSynchronized
  have hts := atoms_spec (ws := wsJx4a65c_add_72be8) B0.pre
  have hown : s.vm.findClass RJx4a65c = some m.cls := findClass_of_methodNamed B0.named
  have hK := hE.1.1
  have hA : ∀ q : Nat, s.heap.size ≤ q → mA hh s.heap.size q := mA.top
  have hS : va_S (mA hh s.heap.size) s.heap s.heap [] := va_S.rf
  have k48 : (Cond.fieldLink RJx4a65c 48 "java/util/ArrayList" "size" "I").before args s = true := hts _ (by decide +kernel)
  have hi_Jx4a65c : ∀ w ∈ u_ws RJx4a65c TJx4a65c 3, w ∈ wsJx4a65c_add_72be8 := by decide +kernel
  have hl := lv_entry ([.ref a, .ref y, .ref df, .int (nI z)]) (n := 4) (by first | exact Nat.le_of_ble_eq_true rfl | simp [lg_sl, rf_cat, ct_ref, ct_int, ct_null, ct_long])
  have hent := lg_entry_eq m ([.ref a, .ref y, .ref df, .int (nI z)]) 4
  rw [← hargs] at hent
  rw [hent]
  generalize (lg_sl ([.ref a, .ref y, .ref df, .int (nI z)]) ++ List.replicate (4 - (lg_sl ([.ref a, .ref y, .ref df, .int (nI z)])).length) Slot.unset).toArray = ls at hl ⊢
  replace hl : lv_has ls 4 [(0, .ref a), (1, .ref y), (2, .ref df), (3, .int (nI z))] := hl
  refine lv_iload_n hx hb dJx4a65c_add_72be8_0 rfl (lv_at hl 3 rfl) ?_
  refine lv_aload_n hx hb dJx4a65c_add_72be8_1 rfl (lv_at hl 2 rfl) ?_
  refine va_tlen hx hb hE.2.2.2.2 hS (v := 0) rfl dJx4a65c_add_72be8_2 ?_
  refine lv_icmp_ne (tgt := 11) hx hb dJx4a65c_add_72be8_3 (by decide) (fun c3 => ?_) (fun c3 => ?_)
  · replace c3 : ¬ z = 0 := fun q9 => c3 ((nI_eq (a := z) (b := 0) (by omega) (by omega)).mpr q9)
    exfalso; omega
  · replace c3 : z = 0 := (nI_eq (a := z) (b := 0) (by omega) (by omega)).mp c3
    refine lv_aload_n hx hb dJx4a65c_add_72be8_6 rfl (lv_at hl 0 rfl) ?_
    refine m_callq (va_runV (As := []) (rest := []) ⟨hx, hb, hml, hown, hts⟩ (c_Jx4a65c_grow_d5877_C (l := l) (D := D) (cs := cs) (df := df) (hh := hh) (s.heap.size) a ha (by omega)) (cwV 0 hts gJx4a65c_add_72be8_Jx4a65c_grow_d5877 rfl rfl rfl (by decide +kernel) ⟨by decide, by decide⟩) (m_preV (r := (RJx4a65c, TJx4a65c, 3)) hE hV hS hA ha rfl) rfl rfl hl.1 rfl (lv_room (by first | exact Nat.le_of_ble_eq_true rfl | simp [rf_cat, ct_ref, ct_int, ct_null, ct_long])) dJx4a65c_add_72be8_7 ⟨by decide, by decide⟩) hV hS hA (fun r h1 H locs hV hS hp _ => ?_)
    obtain ⟨q52_7_7, eq52_7_7, e1, e2⟩ := hp
    subst e2
    rw [e1] at hV; clear e1
    refine lv_astore_n (lv' := [(2, .ref q52_7_7), (0, .ref a), (1, .ref y), (3, .int (nI z))]) hx hb dJx4a65c_add_72be8_10 rfl hl (by decide) rfl (fun ls hl => ?_)
    refine lv_aload_n hx hb dJx4a65c_add_72be8_11 rfl (lv_at hl 0 rfl) ?_
    refine lv_iload_n hx hb dJx4a65c_add_72be8_12 rfl (lv_at hl 3 rfl) ?_
    refine lv_aload_n hx hb dJx4a65c_add_72be8_13 rfl (lv_at hl 2 rfl) ?_
    refine m_aast (Rp := fun h8 => h8 = mu (mu (mu hh q52_7_7 (.inl (cs.2.2.2.2.1, 10, .inr (.inr (.inr (.inr (fun _ => none))))))) a (.inr (2, [.int m0, .ref q52_7_7, .int (nI z)]))) q52_7_7 (.inl (cs.2.2.2.2.1, 10, .inr (.inr (.inr (.inr (va_up (fun _ => none) z (some y)))))))) hx hb hK hV hS 4 (i := nI z) ⟨((mu_n (Ne.symm (m_fresh eq52_7_7 ha))).trans (mu_s _ _ _)), by rw [nI_clamp (by omega)]⟩ rfl (m_any hE hV (isEl_set ((mu_n (m_fresh eq52_7_7 ha)).trans ha) (isEl_new eq52_7_7 hy))) (vp_in_nI (by omega) (by omega)) dJx4a65c_add_72be8_14 (fun h9 H locs hV hS e9 => ?_)
    subst e9
    refine lv_aload_n hx hb dJx4a65c_add_72be8_15 rfl (lv_at hl 1 rfl) ?_
    refine lv_iload_n hx hb dJx4a65c_add_72be8_16 rfl (lv_at hl 3 rfl) ?_
    refine lv_iconst (v := 1) hx hb dJx4a65c_add_72be8_17 (by decide) ?_
    refine lv_iadd hx hb dJx4a65c_add_72be8_18 ?_
    refine m_topi (y := nI (z + 1)) (nI_add z 1) ?_
    refine m_put (C := RJx4a65c) (T := TJx4a65c) (N := 3) (v := .int (nI (z + 1))) (Rp := fun h8 => h8 = mu (mu (mu (mu hh q52_7_7 (.inl (cs.2.2.2.2.1, 10, .inr (.inr (.inr (.inr (fun _ => none))))))) a (.inr (2, [.int m0, .ref q52_7_7, .int (nI z)]))) q52_7_7 (.inl (cs.2.2.2.2.1, 10, .inr (.inr (.inr (.inr (va_up (fun _ => none) z (some y)))))))) a (.inr (2, [.int m0, .ref q52_7_7, .int (nI (z + 1))]))) hx hb hts hi_Jx4a65c tyJx4a65c tyJx4a65c_ok nmJx4a65c hown hK hV hS 2 ⟨_, ((mu_n (m_fresh eq52_7_7 ha)).trans (mu_s _ _ _)), Nat.le_of_ble_eq_true rfl, rfl⟩ rfl (by decide) k48 (fun _ h9 => h9) rfl (tyJx4a65c_ok 2 (by decide)) rfl rfl dJx4a65c_add_72be8_19 (fun h9 H locs hV hS e9 => ?_)
    subst e9
    exact m_vret hx hb hr hlocks hV hS (⟨q52_7_7, eq52_7_7, rfl⟩) dJx4a65c_add_72be8_22
set_option maxHeartbeats 4000000 in
set_option maxRecDepth 100000 in
theorem c_Jx4a65c_add_9ea2d_A {l : Launch} {D : va_G} {cs : mC} {df : Nat} {hh : mH} {m0 : Int32} {d0 z n : Nat} {f : Nat → Option Nat} (sz : Nat) (a : Nat) (y : Nat) (ha : hh a = some (.inr (2, [.int m0, .ref d0, .int (nI z)]))) (hd : hh d0 = some (.inl (cs.2.2.2.2.1, n, .inr (.inr (.inr (.inr f)))))) (hz : z < n) (hn : n ≤ 100) (hy : isEl hh y) : Met l yJx4a65c_add_9ea2d wsJx4a65c_add_9ea2d ({ frames := 6, cells := 1, slots := 200, locals := 170 }) (mPre [.ref a, .ref y] D cs df hh sz) (va_Qi ((fun (r : Int32) (h1 : mH) => h1 = (mu (mu (mu hh a (.inr (2, [.int (m0 + 1), .ref d0, .int (nI z)]))) d0 (.inl (cs.2.2.2.2.1, n, .inr (.inr (.inr (.inr (va_up f z (some y)))))))) a (.inr (2, [.int (m0 + 1), .ref d0, .int (nI (z + 1))]))) ∧ r = 1)) (mB D hh sz) (mA hh sz)) 1 200 (mA hh sz) := by
  refine Met.ofW (cc := cJx4a65c_add_9ea2d) (maxL := 2) (ret := (some .boolean)) (by decide) rfl ?_
  intro p e s m args below meth c s₁ B0 hml hv
  obtain ⟨hargs, hsz, hV, hE⟩ := hv
  subst hsz
  have hx := B0.exec
  have hb := B0.bytes
  have hr := B0.returns
  have hlocks := B0.notSynchronized
  have hts := atoms_spec (ws := wsJx4a65c_add_9ea2d) B0.pre
  have hown : s.vm.findClass RJx4a65c = some m.cls := findClass_of_methodNamed B0.named
  have hK := hE.1.1
  have hA : ∀ q : Nat, s.heap.size ≤ q → mA hh s.heap.size q := mA.top
  have hS : va_S (mA hh s.heap.size) s.heap s.heap [] := va_S.rf
  have k63 : (Cond.fieldLink RJx4a65c 63 "java/util/ArrayList" "modCount" "I").before args s = true := hts _ (by decide +kernel)
  have hi_Jx4a65c : ∀ w ∈ u_ws RJx4a65c TJx4a65c 3, w ∈ wsJx4a65c_add_9ea2d := by decide +kernel
  have k9 : (Cond.fieldLink RJx4a65c 9 "java/util/ArrayList" "elementData" "[Ljava/lang/Object;").before args s = true := hts _ (by decide +kernel)
  have k48 : (Cond.fieldLink RJx4a65c 48 "java/util/ArrayList" "size" "I").before args s = true := hts _ (by decide +kernel)
  have hl := lv_entry ([.ref a, .ref y]) (n := 2) (by first | exact Nat.le_of_ble_eq_true rfl | simp [lg_sl, rf_cat, ct_ref, ct_int, ct_null, ct_long])
  have hent := lg_entry_eq m ([.ref a, .ref y]) 2
  rw [← hargs] at hent
  rw [hent]
  generalize (lg_sl ([.ref a, .ref y]) ++ List.replicate (2 - (lg_sl ([.ref a, .ref y])).length) Slot.unset).toArray = ls at hl ⊢
  replace hl : lv_has ls 2 [(0, .ref a), (1, .ref y)] := hl
  refine lv_aload_n hx hb dJx4a65c_add_9ea2d_0 rfl (lv_at hl 0 rfl) ?_
  refine lv_dup hx hb dJx4a65c_add_9ea2d_1 rfl ?_
  refine m_get (C := RJx4a65c) (T := TJx4a65c) (N := 3) hx hb hts hi_Jx4a65c hown hK hV 0 (v := .int m0) ⟨_, ha, rfl⟩ rfl (by decide) k63 (u_same (hts (.sameField "java/util/ArrayList" "java/util/AbstractList" "modCount" "I") (by decide +kernel))) dJx4a65c_add_9ea2d_2 ?_
  refine lv_iconst (v := 1) hx hb dJx4a65c_add_9ea2d_5 (by decide) ?_
  refine lv_iadd hx hb dJx4a65c_add_9ea2d_6 ?_
  refine m_put (C := RJx4a65c) (T := TJx4a65c) (N := 3) (v := .int (m0 + 1)) (Rp := fun h8 => h8 = mu hh a (.inr (2, [.int (m0 + 1), .ref d0, .int (nI z)]))) hx hb hts hi_Jx4a65c tyJx4a65c tyJx4a65c_ok nmJx4a65c hown hK hV hS 0 ⟨_, ha, Nat.le_of_ble_eq_true rfl, rfl⟩ rfl (by decide) k63 (u_same (hts (.sameField "java/util/ArrayList" "java/util/AbstractList" "modCount" "I") (by decide +kernel))) rfl (tyJx4a65c_ok 0 (by decide)) rfl rfl dJx4a65c_add_9ea2d_7 (fun h9 H locs hV hS e9 => ?_)
  subst e9
  refine lv_aload_n hx hb dJx4a65c_add_9ea2d_10 rfl (lv_at hl 0 rfl) ?_
  refine lv_aload_n hx hb dJx4a65c_add_9ea2d_11 rfl (lv_at hl 1 rfl) ?_
  refine lv_aload_n hx hb dJx4a65c_add_9ea2d_12 rfl (lv_at hl 0 rfl) ?_
  refine m_get (C := RJx4a65c) (T := TJx4a65c) (N := 3) hx hb hts hi_Jx4a65c hown hK hV 1 (v := .ref d0) ⟨_, (mu_s _ _ _), rfl⟩ rfl (by decide) k9 (fun _ h9 => h9) dJx4a65c_add_9ea2d_13 ?_
  refine lv_aload_n hx hb dJx4a65c_add_9ea2d_16 rfl (lv_at hl 0 rfl) ?_
  refine m_get (C := RJx4a65c) (T := TJx4a65c) (N := 3) hx hb hts hi_Jx4a65c hown hK hV 2 (v := .int (nI z)) ⟨_, (mu_s _ _ _), rfl⟩ rfl (by decide) k48 (fun _ h9 => h9) dJx4a65c_add_9ea2d_17 ?_
  refine m_callv (va_runV (As := [.ref y, .ref d0, .int (nI z)]) (rest := []) ⟨hx, hb, hml, hown, hts⟩ (c_Jx4a65c_add_72be8_A (l := l) (D := D) (cs := cs) (df := df) (hh := (mu hh a (.inr (2, [.int (m0 + 1), .ref d0, .int (nI z)])))) (H.size) a y d0 z (mu_s _ _ _) ((mu_n (m_dif hd ha nofun)).trans hd) (by omega) (by omega) (isEl_set ha hy)) (cwV 3 hts gJx4a65c_add_9ea2d_Jx4a65c_add_72be8 rfl rfl rfl (by decide +kernel) ⟨by decide, by decide⟩) (m_preV (r := (RJx4a65c, TJx4a65c, 3)) hE hV hS hA (mu_s _ _ _) rfl) rfl rfl hl.1 rfl (lv_room (by first | exact Nat.le_of_ble_eq_true rfl | simp [rf_cat, ct_ref, ct_int, ct_null, ct_long])) dJx4a65c_add_9ea2d_20 ⟨by decide, by decide⟩) hV hS hA (fun h1 H locs hV hS hp _ => ?_)
  have e1 := hp
  rw [e1] at hV; clear e1
  refine lv_iconst (v := 1) hx hb dJx4a65c_add_9ea2d_23 (by decide) ?_
  exact m_zret (v := 1) hx hb hr hlocks (by decide) hV hS (⟨rfl, rfl⟩) dJx4a65c_add_9ea2d_24
set_option maxHeartbeats 4000000 in
set_option maxRecDepth 100000 in
theorem c_Jx4a65c_add_9ea2d_B {l : Launch} {D : va_G} {cs : mC} {df : Nat} {hh : mH} {m0 : Int32} {d0 z n : Nat} {f : Nat → Option Nat} (sz : Nat) (a : Nat) (y : Nat) (ha : hh a = some (.inr (2, [.int m0, .ref d0, .int (nI z)]))) (hd : hh d0 = some (.inl (cs.2.2.2.2.1, n, .inr (.inr (.inr (.inr f)))))) (hz : z = n) (h0 : 1 ≤ n) (hn : n ≤ 100) (hel : ∀ j, j < n → ∀ y, f j = some y → isEl hh y) (hy : isEl hh y) : Met l yJx4a65c_add_9ea2d wsJx4a65c_add_9ea2d ({ frames := 6, cells := 1, slots := 200, locals := 170 }) (mPre [.ref a, .ref y] D cs df hh sz) (va_Qi ((fun (r : Int32) (h1 : mH) => ∃ q7_6_37_7_7_20 : Nat, hh q7_6_37_7_7_20 = none ∧ h1 = (mu (mu (mu (mu (mu hh a (.inr (2, [.int (m0 + 1), .ref d0, .int (nI z)]))) q7_6_37_7_7_20 (.inl (cs.2.2.2.2.1, (n + (if 1 < (n / 2) then (n / 2) else 1)), .inr (.inr (.inr (.inr (va_cpy f (fun _ => none) 0 0 n))))))) a (.inr (2, [.int (m0 + 1), .ref q7_6_37_7_7_20, .int (nI z)]))) q7_6_37_7_7_20 (.inl (cs.2.2.2.2.1, (n + (if 1 < (n / 2) then (n / 2) else 1)), .inr (.inr (.inr (.inr (va_up (va_cpy f (fun _ => none) 0 0 n) z (some y)))))))) a (.inr (2, [.int (m0 + 1), .ref q7_6_37_7_7_20, .int (nI (z + 1))]))) ∧ r = 1)) (mB D hh sz) (mA hh sz)) 1 200 (mA hh sz) := by
  refine Met.ofW (cc := cJx4a65c_add_9ea2d) (maxL := 2) (ret := (some .boolean)) (by decide) rfl ?_
  intro p e s m args below meth c s₁ B0 hml hv
  obtain ⟨hargs, hsz, hV, hE⟩ := hv
  subst hsz
  have hx := B0.exec
  have hb := B0.bytes
  have hr := B0.returns
  have hlocks := B0.notSynchronized
  have hts := atoms_spec (ws := wsJx4a65c_add_9ea2d) B0.pre
  have hown : s.vm.findClass RJx4a65c = some m.cls := findClass_of_methodNamed B0.named
  have hK := hE.1.1
  have hA : ∀ q : Nat, s.heap.size ≤ q → mA hh s.heap.size q := mA.top
  have hS : va_S (mA hh s.heap.size) s.heap s.heap [] := va_S.rf
  have k63 : (Cond.fieldLink RJx4a65c 63 "java/util/ArrayList" "modCount" "I").before args s = true := hts _ (by decide +kernel)
  have hi_Jx4a65c : ∀ w ∈ u_ws RJx4a65c TJx4a65c 3, w ∈ wsJx4a65c_add_9ea2d := by decide +kernel
  have k9 : (Cond.fieldLink RJx4a65c 9 "java/util/ArrayList" "elementData" "[Ljava/lang/Object;").before args s = true := hts _ (by decide +kernel)
  have k48 : (Cond.fieldLink RJx4a65c 48 "java/util/ArrayList" "size" "I").before args s = true := hts _ (by decide +kernel)
  have hl := lv_entry ([.ref a, .ref y]) (n := 2) (by first | exact Nat.le_of_ble_eq_true rfl | simp [lg_sl, rf_cat, ct_ref, ct_int, ct_null, ct_long])
  have hent := lg_entry_eq m ([.ref a, .ref y]) 2
  rw [← hargs] at hent
  rw [hent]
  generalize (lg_sl ([.ref a, .ref y]) ++ List.replicate (2 - (lg_sl ([.ref a, .ref y])).length) Slot.unset).toArray = ls at hl ⊢
  replace hl : lv_has ls 2 [(0, .ref a), (1, .ref y)] := hl
  refine lv_aload_n hx hb dJx4a65c_add_9ea2d_0 rfl (lv_at hl 0 rfl) ?_
  refine lv_dup hx hb dJx4a65c_add_9ea2d_1 rfl ?_
  refine m_get (C := RJx4a65c) (T := TJx4a65c) (N := 3) hx hb hts hi_Jx4a65c hown hK hV 0 (v := .int m0) ⟨_, ha, rfl⟩ rfl (by decide) k63 (u_same (hts (.sameField "java/util/ArrayList" "java/util/AbstractList" "modCount" "I") (by decide +kernel))) dJx4a65c_add_9ea2d_2 ?_
  refine lv_iconst (v := 1) hx hb dJx4a65c_add_9ea2d_5 (by decide) ?_
  refine lv_iadd hx hb dJx4a65c_add_9ea2d_6 ?_
  refine m_put (C := RJx4a65c) (T := TJx4a65c) (N := 3) (v := .int (m0 + 1)) (Rp := fun h8 => h8 = mu hh a (.inr (2, [.int (m0 + 1), .ref d0, .int (nI z)]))) hx hb hts hi_Jx4a65c tyJx4a65c tyJx4a65c_ok nmJx4a65c hown hK hV hS 0 ⟨_, ha, Nat.le_of_ble_eq_true rfl, rfl⟩ rfl (by decide) k63 (u_same (hts (.sameField "java/util/ArrayList" "java/util/AbstractList" "modCount" "I") (by decide +kernel))) rfl (tyJx4a65c_ok 0 (by decide)) rfl rfl dJx4a65c_add_9ea2d_7 (fun h9 H locs hV hS e9 => ?_)
  subst e9
  refine lv_aload_n hx hb dJx4a65c_add_9ea2d_10 rfl (lv_at hl 0 rfl) ?_
  refine lv_aload_n hx hb dJx4a65c_add_9ea2d_11 rfl (lv_at hl 1 rfl) ?_
  refine lv_aload_n hx hb dJx4a65c_add_9ea2d_12 rfl (lv_at hl 0 rfl) ?_
  refine m_get (C := RJx4a65c) (T := TJx4a65c) (N := 3) hx hb hts hi_Jx4a65c hown hK hV 1 (v := .ref d0) ⟨_, (mu_s _ _ _), rfl⟩ rfl (by decide) k9 (fun _ h9 => h9) dJx4a65c_add_9ea2d_13 ?_
  refine lv_aload_n hx hb dJx4a65c_add_9ea2d_16 rfl (lv_at hl 0 rfl) ?_
  refine m_get (C := RJx4a65c) (T := TJx4a65c) (N := 3) hx hb hts hi_Jx4a65c hown hK hV 2 (v := .int (nI z)) ⟨_, (mu_s _ _ _), rfl⟩ rfl (by decide) k48 (fun _ h9 => h9) dJx4a65c_add_9ea2d_17 ?_
  refine m_callv (va_runV (As := [.ref y, .ref d0, .int (nI z)]) (rest := []) ⟨hx, hb, hml, hown, hts⟩ (c_Jx4a65c_add_72be8_B (l := l) (D := D) (cs := cs) (df := df) (hh := (mu hh a (.inr (2, [.int (m0 + 1), .ref d0, .int (nI z)])))) (H.size) a y d0 z (mu_s _ _ _) ((mu_n (m_dif hd ha nofun)).trans hd) (by omega) (by omega) (by omega) (fun j9 hj9 y9 hy9 => (isEl_set ha (hel j9 hj9 y9 hy9))) (isEl_set ha hy)) (cwV 3 hts gJx4a65c_add_9ea2d_Jx4a65c_add_72be8 rfl rfl rfl (by decide +kernel) ⟨by decide, by decide⟩) (m_preV (r := (RJx4a65c, TJx4a65c, 3)) hE hV hS hA (mu_s _ _ _) rfl) rfl rfl hl.1 rfl (lv_room (by first | exact Nat.le_of_ble_eq_true rfl | simp [rf_cat, ct_ref, ct_int, ct_null, ct_long])) dJx4a65c_add_9ea2d_20 ⟨by decide, by decide⟩) hV hS hA (fun h1 H locs hV hS hp _ => ?_)
  obtain ⟨q7_6_37_7_7_20, eq7_6_37_7_7_20, e1⟩ := hp
  rw [e1] at hV; clear e1
  refine lv_iconst (v := 1) hx hb dJx4a65c_add_9ea2d_23 (by decide) ?_
  exact m_zret (v := 1) hx hb hr hlocks (by decide) hV hS (⟨q7_6_37_7_7_20, (m_none eq7_6_37_7_7_20), rfl, rfl⟩) dJx4a65c_add_9ea2d_24
set_option maxHeartbeats 4000000 in
set_option maxRecDepth 100000 in
theorem c_Jx4a65c_add_9ea2d_C {l : Launch} {D : va_G} {cs : mC} {df : Nat} {hh : mH} {m0 : Int32} {z : Nat} (sz : Nat) (a : Nat) (y : Nat) (ha : hh a = some (.inr (2, [.int m0, .ref df, .int (nI z)]))) (hz : z = 0) (hy : isEl hh y) : Met l yJx4a65c_add_9ea2d wsJx4a65c_add_9ea2d ({ frames := 6, cells := 1, slots := 200, locals := 170 }) (mPre [.ref a, .ref y] D cs df hh sz) (va_Qi ((fun (r : Int32) (h1 : mH) => ∃ q52_7_7_20 : Nat, hh q52_7_7_20 = none ∧ h1 = (mu (mu (mu (mu (mu hh a (.inr (2, [.int (m0 + 1), .ref df, .int (nI z)]))) q52_7_7_20 (.inl (cs.2.2.2.2.1, 10, .inr (.inr (.inr (.inr (fun _ => none))))))) a (.inr (2, [.int (m0 + 1), .ref q52_7_7_20, .int (nI z)]))) q52_7_7_20 (.inl (cs.2.2.2.2.1, 10, .inr (.inr (.inr (.inr (va_up (fun _ => none) z (some y)))))))) a (.inr (2, [.int (m0 + 1), .ref q52_7_7_20, .int (nI (z + 1))]))) ∧ r = 1)) (mB D hh sz) (mA hh sz)) 1 200 (mA hh sz) := by
  refine Met.ofW (cc := cJx4a65c_add_9ea2d) (maxL := 2) (ret := (some .boolean)) (by decide) rfl ?_
  intro p e s m args below meth c s₁ B0 hml hv
  obtain ⟨hargs, hsz, hV, hE⟩ := hv
  subst hsz
  have hx := B0.exec
  have hb := B0.bytes
  have hr := B0.returns
  have hlocks := B0.notSynchronized
  have hts := atoms_spec (ws := wsJx4a65c_add_9ea2d) B0.pre
  have hown : s.vm.findClass RJx4a65c = some m.cls := findClass_of_methodNamed B0.named
  have hK := hE.1.1
  have hA : ∀ q : Nat, s.heap.size ≤ q → mA hh s.heap.size q := mA.top
  have hS : va_S (mA hh s.heap.size) s.heap s.heap [] := va_S.rf
  have k63 : (Cond.fieldLink RJx4a65c 63 "java/util/ArrayList" "modCount" "I").before args s = true := hts _ (by decide +kernel)
  have hi_Jx4a65c : ∀ w ∈ u_ws RJx4a65c TJx4a65c 3, w ∈ wsJx4a65c_add_9ea2d := by decide +kernel
  have k9 : (Cond.fieldLink RJx4a65c 9 "java/util/ArrayList" "elementData" "[Ljava/lang/Object;").before args s = true := hts _ (by decide +kernel)
  have k48 : (Cond.fieldLink RJx4a65c 48 "java/util/ArrayList" "size" "I").before args s = true := hts _ (by decide +kernel)
  have hl := lv_entry ([.ref a, .ref y]) (n := 2) (by first | exact Nat.le_of_ble_eq_true rfl | simp [lg_sl, rf_cat, ct_ref, ct_int, ct_null, ct_long])
  have hent := lg_entry_eq m ([.ref a, .ref y]) 2
  rw [← hargs] at hent
  rw [hent]
  generalize (lg_sl ([.ref a, .ref y]) ++ List.replicate (2 - (lg_sl ([.ref a, .ref y])).length) Slot.unset).toArray = ls at hl ⊢
  replace hl : lv_has ls 2 [(0, .ref a), (1, .ref y)] := hl
  refine lv_aload_n hx hb dJx4a65c_add_9ea2d_0 rfl (lv_at hl 0 rfl) ?_
  refine lv_dup hx hb dJx4a65c_add_9ea2d_1 rfl ?_
  refine m_get (C := RJx4a65c) (T := TJx4a65c) (N := 3) hx hb hts hi_Jx4a65c hown hK hV 0 (v := .int m0) ⟨_, ha, rfl⟩ rfl (by decide) k63 (u_same (hts (.sameField "java/util/ArrayList" "java/util/AbstractList" "modCount" "I") (by decide +kernel))) dJx4a65c_add_9ea2d_2 ?_
  refine lv_iconst (v := 1) hx hb dJx4a65c_add_9ea2d_5 (by decide) ?_
  refine lv_iadd hx hb dJx4a65c_add_9ea2d_6 ?_
  refine m_put (C := RJx4a65c) (T := TJx4a65c) (N := 3) (v := .int (m0 + 1)) (Rp := fun h8 => h8 = mu hh a (.inr (2, [.int (m0 + 1), .ref df, .int (nI z)]))) hx hb hts hi_Jx4a65c tyJx4a65c tyJx4a65c_ok nmJx4a65c hown hK hV hS 0 ⟨_, ha, Nat.le_of_ble_eq_true rfl, rfl⟩ rfl (by decide) k63 (u_same (hts (.sameField "java/util/ArrayList" "java/util/AbstractList" "modCount" "I") (by decide +kernel))) rfl (tyJx4a65c_ok 0 (by decide)) rfl rfl dJx4a65c_add_9ea2d_7 (fun h9 H locs hV hS e9 => ?_)
  subst e9
  refine lv_aload_n hx hb dJx4a65c_add_9ea2d_10 rfl (lv_at hl 0 rfl) ?_
  refine lv_aload_n hx hb dJx4a65c_add_9ea2d_11 rfl (lv_at hl 1 rfl) ?_
  refine lv_aload_n hx hb dJx4a65c_add_9ea2d_12 rfl (lv_at hl 0 rfl) ?_
  refine m_get (C := RJx4a65c) (T := TJx4a65c) (N := 3) hx hb hts hi_Jx4a65c hown hK hV 1 (v := .ref df) ⟨_, (mu_s _ _ _), rfl⟩ rfl (by decide) k9 (fun _ h9 => h9) dJx4a65c_add_9ea2d_13 ?_
  refine lv_aload_n hx hb dJx4a65c_add_9ea2d_16 rfl (lv_at hl 0 rfl) ?_
  refine m_get (C := RJx4a65c) (T := TJx4a65c) (N := 3) hx hb hts hi_Jx4a65c hown hK hV 2 (v := .int (nI z)) ⟨_, (mu_s _ _ _), rfl⟩ rfl (by decide) k48 (fun _ h9 => h9) dJx4a65c_add_9ea2d_17 ?_
  refine m_callv (va_runV (As := [.ref y, .ref df, .int (nI z)]) (rest := []) ⟨hx, hb, hml, hown, hts⟩ (c_Jx4a65c_add_72be8_C (l := l) (D := D) (cs := cs) (df := df) (hh := (mu hh a (.inr (2, [.int (m0 + 1), .ref df, .int (nI z)])))) (H.size) a y z (mu_s _ _ _) (by omega) (isEl_set ha hy)) (cwV 3 hts gJx4a65c_add_9ea2d_Jx4a65c_add_72be8 rfl rfl rfl (by decide +kernel) ⟨by decide, by decide⟩) (m_preV (r := (RJx4a65c, TJx4a65c, 3)) hE hV hS hA (mu_s _ _ _) rfl) rfl rfl hl.1 rfl (lv_room (by first | exact Nat.le_of_ble_eq_true rfl | simp [rf_cat, ct_ref, ct_int, ct_null, ct_long])) dJx4a65c_add_9ea2d_20 ⟨by decide, by decide⟩) hV hS hA (fun h1 H locs hV hS hp _ => ?_)
  obtain ⟨q52_7_7_20, eq52_7_7_20, e1⟩ := hp
  rw [e1] at hV; clear e1
  refine lv_iconst (v := 1) hx hb dJx4a65c_add_9ea2d_23 (by decide) ?_
  exact m_zret (v := 1) hx hb hr hlocks (by decide) hV hS (⟨q52_7_7_20, (m_none eq52_7_7_20), rfl, rfl⟩) dJx4a65c_add_9ea2d_24
set_option maxHeartbeats 4000000 in
set_option maxRecDepth 100000 in
theorem c_Jx4a65c_fastRemove_b59b0_M {l : Launch} {D : va_G} {cs : mC} {df : Nat} {hh : mH} {m0 : Int32} {z n : Nat} {f : Nat → Option Nat} (sz : Nat) (a : Nat) (d0 : Nat) (i : Nat) (ha : hh a = some (.inr (2, [.int m0, .ref d0, .int (nI z)]))) (hd : hh d0 = some (.inl (cs.2.2.2.2.1, n, .inr (.inr (.inr (.inr f)))))) (hz : z ≤ n) (hn : n ≤ 100) (hi : i + 1 < z) (hel : ∀ j, j < n → ∀ y, f j = some y → isEl hh y) : Met l yJx4a65c_fastRemove_b59b0 wsJx4a65c_fastRemove_b59b0 ({ frames := 1, cells := 0, slots := 0, locals := 60 }) (mPre [.ref a, .ref d0, .int (nI i)] D cs df hh sz) (va_Qv ((fun (h1 : mH) => h1 = (mu (mu (mu (mu hh a (.inr (2, [.int (m0 + 1), .ref d0, .int (nI z)]))) d0 (.inl (cs.2.2.2.2.1, n, .inr (.inr (.inr (.inr (va_cpy f f (i + 1) i (z - 1 - i)))))))) a (.inr (2, [.int (m0 + 1), .ref d0, .int (nI (z - 1))]))) d0 (.inl (cs.2.2.2.2.1, n, .inr (.inr (.inr (.inr (va_up (va_cpy f f (i + 1) i (z - 1 - i)) (z - 1) none))))))))) (mB D hh sz) (mA hh sz)) 0 0 (mA hh sz) := by
  refine Met.ofW (cc := cJx4a65c_fastRemove_b59b0) (maxL := 4) (ret := none) (by decide) rfl ?_
  intro p e s m args below meth c s₁ B0 hml hv
  obtain ⟨hargs, hsz, hV, hE⟩ := hv
  subst hsz
  have hx := B0.exec
  have hb := B0.bytes
  have hr := B0.returns
  have hlocks := B0.notSynchronized
  have hts := atoms_spec (ws := wsJx4a65c_fastRemove_b59b0) B0.pre
  have hown : s.vm.findClass RJx4a65c = some m.cls := findClass_of_methodNamed B0.named
  have hK := hE.1.1
  have hA : ∀ q : Nat, s.heap.size ≤ q → mA hh s.heap.size q := mA.top
  have hS : va_S (mA hh s.heap.size) s.heap s.heap [] := va_S.rf
  have k63 : (Cond.fieldLink RJx4a65c 63 "java/util/ArrayList" "modCount" "I").before args s = true := hts _ (by decide +kernel)
  have hi_Jx4a65c : ∀ w ∈ u_ws RJx4a65c TJx4a65c 3, w ∈ wsJx4a65c_fastRemove_b59b0 := by decide +kernel
  have k48 : (Cond.fieldLink RJx4a65c 48 "java/util/ArrayList" "size" "I").before args s = true := hts _ (by decide +kernel)
  have hl := lv_entry ([.ref a, .ref d0, .int (nI i)]) (n := 4) (by first | exact Nat.le_of_ble_eq_true rfl | simp [lg_sl, rf_cat, ct_ref, ct_int, ct_null, ct_long])
  have hent := lg_entry_eq m ([.ref a, .ref d0, .int (nI i)]) 4
  rw [← hargs] at hent
  rw [hent]
  generalize (lg_sl ([.ref a, .ref d0, .int (nI i)]) ++ List.replicate (4 - (lg_sl ([.ref a, .ref d0, .int (nI i)])).length) Slot.unset).toArray = ls at hl ⊢
  replace hl : lv_has ls 4 [(0, .ref a), (1, .ref d0), (2, .int (nI i))] := hl
  refine lv_aload_n hx hb dJx4a65c_fastRemove_b59b0_0 rfl (lv_at hl 0 rfl) ?_
  refine lv_dup hx hb dJx4a65c_fastRemove_b59b0_1 rfl ?_
  refine m_get (C := RJx4a65c) (T := TJx4a65c) (N := 3) hx hb hts hi_Jx4a65c hown hK hV 0 (v := .int m0) ⟨_, ha, rfl⟩ rfl (by decide) k63 (u_same (hts (.sameField "java/util/ArrayList" "java/util/AbstractList" "modCount" "I") (by decide +kernel))) dJx4a65c_fastRemove_b59b0_2 ?_
  refine lv_iconst (v := 1) hx hb dJx4a65c_fastRemove_b59b0_5 (by decide) ?_
  refine lv_iadd hx hb dJx4a65c_fastRemove_b59b0_6 ?_
  refine m_put (C := RJx4a65c) (T := TJx4a65c) (N := 3) (v := .int (m0 + 1)) (Rp := fun h8 => h8 = mu hh a (.inr (2, [.int (m0 + 1), .ref d0, .int (nI z)]))) hx hb hts hi_Jx4a65c tyJx4a65c tyJx4a65c_ok nmJx4a65c hown hK hV hS 0 ⟨_, ha, Nat.le_of_ble_eq_true rfl, rfl⟩ rfl (by decide) k63 (u_same (hts (.sameField "java/util/ArrayList" "java/util/AbstractList" "modCount" "I") (by decide +kernel))) rfl (tyJx4a65c_ok 0 (by decide)) rfl rfl dJx4a65c_fastRemove_b59b0_7 (fun h9 H locs hV hS e9 => ?_)
  subst e9
  refine lv_aload_n hx hb dJx4a65c_fastRemove_b59b0_10 rfl (lv_at hl 0 rfl) ?_
  refine m_get (C := RJx4a65c) (T := TJx4a65c) (N := 3) hx hb hts hi_Jx4a65c hown hK hV 2 (v := .int (nI z)) ⟨_, (mu_s _ _ _), rfl⟩ rfl (by decide) k48 (fun _ h9 => h9) dJx4a65c_fastRemove_b59b0_11 ?_
  refine lv_iconst (v := 1) hx hb dJx4a65c_fastRemove_b59b0_14 (by decide) ?_
  refine lv_isub hx hb dJx4a65c_fastRemove_b59b0_15 ?_
  refine m_topi (y := nI (z - 1)) (pk_sub (a := z) (b := 1) (by omega)) ?_
  refine lv_dup hx hb dJx4a65c_fastRemove_b59b0_16 rfl ?_
  refine lv_istore_n (lv' := [(3, .int (nI (z - 1))), (0, .ref a), (1, .ref d0), (2, .int (nI i))]) hx hb dJx4a65c_fastRemove_b59b0_17 rfl hl (by decide) rfl (fun ls hl => ?_)
  refine lv_iload_n hx hb dJx4a65c_fastRemove_b59b0_18 rfl (lv_at hl 3 rfl) ?_
  refine lv_icmp_le (tgt := 34) hx hb dJx4a65c_fastRemove_b59b0_19 (by decide) (fun c19 => ?_) (fun c19 => ?_)
  · replace c19 : (z - 1) ≤ i := (nI_leI (a := (z - 1)) (b := i) (by omega) (by omega)).mp c19
    exfalso; omega
  · replace c19 : ¬ (z - 1) ≤ i := fun q9 => c19 ((nI_leI (a := (z - 1)) (b := i) (by omega) (by omega)).mpr q9)
    refine lv_aload_n hx hb dJx4a65c_fastRemove_b59b0_22 rfl (lv_at hl 2 rfl) ?_
    refine lv_iload_n hx hb dJx4a65c_fastRemove_b59b0_23 rfl (lv_at hl 3 rfl) ?_
    refine lv_iconst (v := 1) hx hb dJx4a65c_fastRemove_b59b0_24 (by decide) ?_
    refine lv_iadd hx hb dJx4a65c_fastRemove_b59b0_25 ?_
    refine m_topi (y := nI (i + 1)) (nI_add i 1) ?_
    refine lv_aload_n hx hb dJx4a65c_fastRemove_b59b0_26 rfl (lv_at hl 2 rfl) ?_
    refine lv_iload_n hx hb dJx4a65c_fastRemove_b59b0_27 rfl (lv_at hl 3 rfl) ?_
    refine lv_iload_n hx hb dJx4a65c_fastRemove_b59b0_28 rfl (lv_at hl 0 rfl) ?_
    refine lv_iload_n hx hb dJx4a65c_fastRemove_b59b0_29 rfl (lv_at hl 3 rfl) ?_
    refine lv_isub hx hb dJx4a65c_fastRemove_b59b0_30 ?_
    refine m_topi (y := nI (z - 1 - i)) (pk_sub (by omega)) ?_
    have w1 : ((nI (i + 1) : Int32)).toNatClampNeg = (i + 1) := nI_clamp (by omega)
    have w2 : ((nI i : Int32)).toNatClampNeg = i := nI_clamp (by omega)
    have w3 : ((nI (z - 1 - i) : Int32)).toNatClampNeg = (z - 1 - i) := nI_clamp (by omega)
    refine m_copy hx hb (by rw [hml]; exact hl.1.symm) hown (hts (.methodLink RJx4a65c 112 arraycopyName) (by decide +kernel)) (hts (.native arraycopyName) (by decide +kernel)) (hts (.static arraycopyName) (by decide +kernel)) (hts (.initialized "java/lang/System") (by decide +kernel)) hK hV hS 4 (n := nI (z - 1 - i)) (sp := nI (i + 1)) (dp := nI i) ((mu_n (m_dif hd ha nofun)).trans hd) ((mu_n (m_dif hd ha nofun)).trans hd) rfl (nI_pos (by omega)) (nI_pos (by omega)) (nI_pos (by omega)) (by rw [w1, w3]; omega) (by rw [w2, w3]; omega) (by rw [w1, w3]; exact (fun j9 hj9 y9 hy9 => m_any hE hV (isEl_set ha (hel _ (by omega) y9 hy9)))) (by decide) (by decide) dJx4a65c_fastRemove_b59b0_31 (fun H locs hV hS => ?_)
    simp only [w1, w2, w3] at hV; clear w1 w2 w3
    refine lv_aload_n hx hb dJx4a65c_fastRemove_b59b0_34 rfl (lv_at hl 2 rfl) ?_
    refine lv_aload_n hx hb dJx4a65c_fastRemove_b59b0_35 rfl (lv_at hl 1 rfl) ?_
    refine lv_iload_n hx hb dJx4a65c_fastRemove_b59b0_36 rfl (lv_at hl 0 rfl) ?_
    refine lv_dup_x1 hx hb dJx4a65c_fastRemove_b59b0_37 rfl rfl ?_
    refine m_put (C := RJx4a65c) (T := TJx4a65c) (N := 3) (v := .int (nI (z - 1))) (Rp := fun h8 => h8 = mu (mu (mu hh a (.inr (2, [.int (m0 + 1), .ref d0, .int (nI z)]))) d0 (.inl (cs.2.2.2.2.1, n, .inr (.inr (.inr (.inr (va_cpy f f (i + 1) i (z - 1 - i)))))))) a (.inr (2, [.int (m0 + 1), .ref d0, .int (nI (z - 1))]))) hx hb hts hi_Jx4a65c tyJx4a65c tyJx4a65c_ok nmJx4a65c hown hK hV hS 2 ⟨_, ((mu_n (m_dif ha hd nofun)).trans (mu_s _ _ _)), Nat.le_of_ble_eq_true rfl, rfl⟩ rfl (by decide) k48 (fun _ h9 => h9) rfl (tyJx4a65c_ok 2 (by decide)) rfl rfl dJx4a65c_fastRemove_b59b0_38 (fun h9 H locs hV hS e9 => ?_)
    subst e9
    refine lv_null hx hb dJx4a65c_fastRemove_b59b0_41 ?_
    refine m_aastN (Rp := fun h8 => h8 = mu (mu (mu (mu hh a (.inr (2, [.int (m0 + 1), .ref d0, .int (nI z)]))) d0 (.inl (cs.2.2.2.2.1, n, .inr (.inr (.inr (.inr (va_cpy f f (i + 1) i (z - 1 - i)))))))) a (.inr (2, [.int (m0 + 1), .ref d0, .int (nI (z - 1))]))) d0 (.inl (cs.2.2.2.2.1, n, .inr (.inr (.inr (.inr (va_up (va_cpy f f (i + 1) i (z - 1 - i)) (z - 1) none))))))) hx hb hK hV hS 4 (i := nI (z - 1)) ⟨((mu_n (m_dif hd ha nofun)).trans (mu_s _ _ _)), by rw [nI_clamp (by omega)]⟩ rfl (vp_in_nI (by omega) (by omega)) dJx4a65c_fastRemove_b59b0_42 (fun h9 H locs hV hS e9 => ?_)
    subst e9
    exact m_vret hx hb hr hlocks hV hS (rfl) dJx4a65c_fastRemove_b59b0_43
set_option maxHeartbeats 4000000 in
set_option maxRecDepth 100000 in
theorem c_Jx4a65c_remove_915e3_M {l : Launch} {D : va_G} {cs : mC} {df : Nat} {hh : mH} {m0 : Int32} {d0 z n : Nat} {f : Nat → Option Nat} (sz : Nat) (a : Nat) (i : Nat) (ha : hh a = some (.inr (2, [.int m0, .ref d0, .int (nI z)]))) (hd : hh d0 = some (.inl (cs.2.2.2.2.1, n, .inr (.inr (.inr (.inr f)))))) (hz : z ≤ n) (hn : n ≤ 100) (hi : i + 1 < z) (hel : ∀ j, j < n → ∀ y, f j = some y → isEl hh y) : Met l yJx4a65c_remove_915e3 wsJx4a65c_remove_915e3 ({ frames := 2, cells := 0, slots := 0, locals := 83 }) (mPre [.ref a, .int (nI i)] D cs df hh sz) (va_Qq ((fun (r : Option Nat) (h1 : mH) => h1 = (mu (mu (mu (mu hh a (.inr (2, [.int (m0 + 1), .ref d0, .int (nI z)]))) d0 (.inl (cs.2.2.2.2.1, n, .inr (.inr (.inr (.inr (va_cpy f f (i + 1) i (z - 1 - i)))))))) a (.inr (2, [.int (m0 + 1), .ref d0, .int (nI (z - 1))]))) d0 (.inl (cs.2.2.2.2.1, n, .inr (.inr (.inr (.inr (va_up (va_cpy f f (i + 1) i (z - 1 - i)) (z - 1) none))))))) ∧ r = (f i))) (mB D hh sz) (mA hh sz)) 0 0 (mA hh sz) := by
  refine Met.ofW (cc := cJx4a65c_remove_915e3) (maxL := 4) (ret := (some (.object "java/lang/Object"))) (by decide) rfl ?_
  intro p e s m args below meth c s₁ B0 hml hv
  obtain ⟨hargs, hsz, hV, hE⟩ := hv
  subst hsz
  have hx := B0.exec
  have hb := B0.bytes
  have hr := B0.returns
  have hlocks := B0.notSynchronized
  have hts := atoms_spec (ws := wsJx4a65c_remove_915e3) B0.pre
  have hown : s.vm.findClass RJx4a65c = some m.cls := findClass_of_methodNamed B0.named
  have hK := hE.1.1
  have hA : ∀ q : Nat, s.heap.size ≤ q → mA hh s.heap.size q := mA.top
  have hS : va_S (mA hh s.heap.size) s.heap s.heap [] := va_S.rf
  have k48 : (Cond.fieldLink RJx4a65c 48 "java/util/ArrayList" "size" "I").before args s = true := hts _ (by decide +kernel)
  have hi_Jx4a65c : ∀ w ∈ u_ws RJx4a65c TJx4a65c 3, w ∈ wsJx4a65c_remove_915e3 := by decide +kernel
  have k9 : (Cond.fieldLink RJx4a65c 9 "java/util/ArrayList" "elementData" "[Ljava/lang/Object;").before args s = true := hts _ (by decide +kernel)
  have hl := lv_entry ([.ref a, .int (nI i)]) (n := 4) (by first | exact Nat.le_of_ble_eq_true rfl | simp [lg_sl, rf_cat, ct_ref, ct_int, ct_null, ct_long])
  have hent := lg_entry_eq m ([.ref a, .int (nI i)]) 4
  rw [← hargs] at hent
  rw [hent]
  generalize (lg_sl ([.ref a, .int (nI i)]) ++ List.replicate (4 - (lg_sl ([.ref a, .int (nI i)])).length) Slot.unset).toArray = ls at hl ⊢
  replace hl : lv_has ls 4 [(0, .ref a), (1, .int (nI i))] := hl
  refine lv_iload_n hx hb dJx4a65c_remove_915e3_0 rfl (lv_at hl 1 rfl) ?_
  refine lv_aload_n hx hb dJx4a65c_remove_915e3_1 rfl (lv_at hl 0 rfl) ?_
  refine m_get (C := RJx4a65c) (T := TJx4a65c) (N := 3) hx hb hts hi_Jx4a65c hown hK hV 2 (v := .int (nI z)) ⟨_, ha, rfl⟩ rfl (by decide) k48 (fun _ h9 => h9) dJx4a65c_remove_915e3_2 ?_
  refine m_calli (va_runS (As := [.int (nI i), .int (nI z)]) (rest := []) ⟨hx, hb, hml, hown, hts⟩ (c_J15_checkIndex_7cf53 (l := l) (D := D) (cs := cs) (df := df) (hh := hh) (s.heap.size) i z (by omega) (by omega)) (va_cwS 2 hts gJx4a65c_remove_915e3_J15_checkIndex_7cf53 rfl rfl rfl (by decide +kernel) ⟨by decide, by decide⟩) (m_preS hE hV hS hA) rfl rfl hl.1 rfl (lv_room (by first | exact Nat.le_of_ble_eq_true rfl | simp [rf_cat, ct_ref, ct_int, ct_null, ct_long])) dJx4a65c_remove_915e3_5 ⟨by decide, by decide⟩) hV hS hA (fun r h1 H locs hV hS hp _ => ?_)
  obtain ⟨e1, e2⟩ := hp
  subst e2
  rw [e1] at hV; clear e1
  refine lv_pop hx hb dJx4a65c_remove_915e3_8 rfl ?_
  refine lv_aload_n hx hb dJx4a65c_remove_915e3_9 rfl (lv_at hl 0 rfl) ?_
  refine m_get (C := RJx4a65c) (T := TJx4a65c) (N := 3) hx hb hts hi_Jx4a65c hown hK hV 1 (v := .ref d0) ⟨_, ha, rfl⟩ rfl (by decide) k9 (fun _ h9 => h9) dJx4a65c_remove_915e3_10 ?_
  refine lv_astore_n (lv' := [(2, .ref d0), (0, .ref a), (1, .int (nI i))]) hx hb dJx4a65c_remove_915e3_13 rfl hl (by decide) rfl (fun ls hl => ?_)
  refine lv_aload_n hx hb dJx4a65c_remove_915e3_14 rfl (lv_at hl 0 rfl) ?_
  refine lv_iload_n hx hb dJx4a65c_remove_915e3_15 rfl (lv_at hl 2 rfl) ?_
  refine m_aald hx hb hK hV 4 (i := nI i) (x := (f i)) hd rfl (vp_in_nI (by omega) (by omega)) (by rw [nI_clamp (by omega)] <;> rfl) dJx4a65c_remove_915e3_16 ?_
  refine m_astore_nq (i := 3) (lv' := [(3, va_rf (f i)), (2, .ref d0), (0, .ref a), (1, .int (nI i))]) hx hb dJx4a65c_remove_915e3_17 rfl hl (by decide) (by first | rfl | simp [rf_cat, ct_ref, ct_int, ct_long]) (fun ls hl => ?_)
  refine lv_aload_n hx hb dJx4a65c_remove_915e3_18 rfl (lv_at hl 2 rfl) ?_
  refine lv_aload_n hx hb dJx4a65c_remove_915e3_19 rfl (lv_at hl 1 rfl) ?_
  refine lv_iload_n hx hb dJx4a65c_remove_915e3_20 rfl (lv_at hl 3 rfl) ?_
  refine m_callv (va_runV (As := [.ref d0, .int (nI i)]) (rest := []) ⟨hx, hb, hml, hown, hts⟩ (c_Jx4a65c_fastRemove_b59b0_M (l := l) (D := D) (cs := cs) (df := df) (hh := hh) (H.size) a d0 i ha hd (by omega) (by omega) (by omega) (fun j9 hj9 y9 hy9 => (hel j9 hj9 y9 hy9))) (cwV 2 hts gJx4a65c_remove_915e3_Jx4a65c_fastRemove_b59b0 rfl rfl rfl (by decide +kernel) ⟨by decide, by decide⟩) (m_preV (r := (RJx4a65c, TJx4a65c, 3)) hE hV hS hA ha rfl) rfl rfl hl.1 rfl (lv_room (by first | exact Nat.le_of_ble_eq_true rfl | simp [rf_cat, ct_ref, ct_int, ct_null, ct_long])) dJx4a65c_remove_915e3_21 ⟨by decide, by decide⟩) hV hS hA (fun h1 H locs hV hS hp _ => ?_)
  have e1 := hp
  rw [e1] at hV; clear e1
  refine m_aload_nq hx hb dJx4a65c_remove_915e3_24 rfl (lv_at hl 0 rfl) ?_
  exact m_aret (v := (f i)) hx hb hr hlocks (Or.inl ⟨_, rfl⟩) hV hS (⟨rfl, rfl⟩) dJx4a65c_remove_915e3_25
set_option maxHeartbeats 4000000 in
set_option maxRecDepth 100000 in
theorem c_Jx4a65c_fastRemove_b59b0_E {l : Launch} {D : va_G} {cs : mC} {df : Nat} {hh : mH} {m0 : Int32} {z n : Nat} {f : Nat → Option Nat} (sz : Nat) (a : Nat) (d0 : Nat) (i : Nat) (ha : hh a = some (.inr (2, [.int m0, .ref d0, .int (nI z)]))) (hd : hh d0 = some (.inl (cs.2.2.2.2.1, n, .inr (.inr (.inr (.inr f)))))) (hz : z ≤ n) (hn : n ≤ 100) (hi : i + 1 = z) (hel : ∀ j, j < n → ∀ y, f j = some y → isEl hh y) : Met l yJx4a65c_fastRemove_b59b0 wsJx4a65c_fastRemove_b59b0 ({ frames := 0, cells := 0, slots := 0, locals := 0 }) (mPre [.ref a, .ref d0, .int (nI i)] D cs df hh sz) (va_Qv ((fun (h1 : mH) => h1 = (mu (mu (mu hh a (.inr (2, [.int (m0 + 1), .ref d0, .int (nI z)]))) a (.inr (2, [.int (m0 + 1), .ref d0, .int (nI (z - 1))]))) d0 (.inl (cs.2.2.2.2.1, n, .inr (.inr (.inr (.inr (va_up f (z - 1) none))))))))) (mB D hh sz) (mA hh sz)) 0 0 (mA hh sz) := by
  refine Met.ofW (cc := cJx4a65c_fastRemove_b59b0) (maxL := 4) (ret := none) (by decide) rfl ?_
  intro p e s m args below meth c s₁ B0 hml hv
  obtain ⟨hargs, hsz, hV, hE⟩ := hv
  subst hsz
  have hx := B0.exec
  have hb := B0.bytes
  have hr := B0.returns
  have hlocks := B0.notSynchronized
  have hts := atoms_spec (ws := wsJx4a65c_fastRemove_b59b0) B0.pre
  have hown : s.vm.findClass RJx4a65c = some m.cls := findClass_of_methodNamed B0.named
  have hK := hE.1.1
  have hA : ∀ q : Nat, s.heap.size ≤ q → mA hh s.heap.size q := mA.top
  have hS : va_S (mA hh s.heap.size) s.heap s.heap [] := va_S.rf
  have k63 : (Cond.fieldLink RJx4a65c 63 "java/util/ArrayList" "modCount" "I").before args s = true := hts _ (by decide +kernel)
  have hi_Jx4a65c : ∀ w ∈ u_ws RJx4a65c TJx4a65c 3, w ∈ wsJx4a65c_fastRemove_b59b0 := by decide +kernel
  have k48 : (Cond.fieldLink RJx4a65c 48 "java/util/ArrayList" "size" "I").before args s = true := hts _ (by decide +kernel)
  have hl := lv_entry ([.ref a, .ref d0, .int (nI i)]) (n := 4) (by first | exact Nat.le_of_ble_eq_true rfl | simp [lg_sl, rf_cat, ct_ref, ct_int, ct_null, ct_long])
  have hent := lg_entry_eq m ([.ref a, .ref d0, .int (nI i)]) 4
  rw [← hargs] at hent
  rw [hent]
  generalize (lg_sl ([.ref a, .ref d0, .int (nI i)]) ++ List.replicate (4 - (lg_sl ([.ref a, .ref d0, .int (nI i)])).length) Slot.unset).toArray = ls at hl ⊢
  replace hl : lv_has ls 4 [(0, .ref a), (1, .ref d0), (2, .int (nI i))] := hl
  refine lv_aload_n hx hb dJx4a65c_fastRemove_b59b0_0 rfl (lv_at hl 0 rfl) ?_
  refine lv_dup hx hb dJx4a65c_fastRemove_b59b0_1 rfl ?_
  refine m_get (C := RJx4a65c) (T := TJx4a65c) (N := 3) hx hb hts hi_Jx4a65c hown hK hV 0 (v := .int m0) ⟨_, ha, rfl⟩ rfl (by decide) k63 (u_same (hts (.sameField "java/util/ArrayList" "java/util/AbstractList" "modCount" "I") (by decide +kernel))) dJx4a65c_fastRemove_b59b0_2 ?_
  refine lv_iconst (v := 1) hx hb dJx4a65c_fastRemove_b59b0_5 (by decide) ?_
  refine lv_iadd hx hb dJx4a65c_fastRemove_b59b0_6 ?_
  refine m_put (C := RJx4a65c) (T := TJx4a65c) (N := 3) (v := .int (m0 + 1)) (Rp := fun h8 => h8 = mu hh a (.inr (2, [.int (m0 + 1), .ref d0, .int (nI z)]))) hx hb hts hi_Jx4a65c tyJx4a65c tyJx4a65c_ok nmJx4a65c hown hK hV hS 0 ⟨_, ha, Nat.le_of_ble_eq_true rfl, rfl⟩ rfl (by decide) k63 (u_same (hts (.sameField "java/util/ArrayList" "java/util/AbstractList" "modCount" "I") (by decide +kernel))) rfl (tyJx4a65c_ok 0 (by decide)) rfl rfl dJx4a65c_fastRemove_b59b0_7 (fun h9 H locs hV hS e9 => ?_)
  subst e9
  refine lv_aload_n hx hb dJx4a65c_fastRemove_b59b0_10 rfl (lv_at hl 0 rfl) ?_
  refine m_get (C := RJx4a65c) (T := TJx4a65c) (N := 3) hx hb hts hi_Jx4a65c hown hK hV 2 (v := .int (nI z)) ⟨_, (mu_s _ _ _), rfl⟩ rfl (by decide) k48 (fun _ h9 => h9) dJx4a65c_fastRemove_b59b0_11 ?_
  refine lv_iconst (v := 1) hx hb dJx4a65c_fastRemove_b59b0_14 (by decide) ?_
  refine lv_isub hx hb dJx4a65c_fastRemove_b59b0_15 ?_
  refine m_topi (y := nI (z - 1)) (pk_sub (a := z) (b := 1) (by omega)) ?_
  refine lv_dup hx hb dJx4a65c_fastRemove_b59b0_16 rfl ?_
  refine lv_istore_n (lv' := [(3, .int (nI (z - 1))), (0, .ref a), (1, .ref d0), (2, .int (nI i))]) hx hb dJx4a65c_fastRemove_b59b0_17 rfl hl (by decide) rfl (fun ls hl => ?_)
  refine lv_iload_n hx hb dJx4a65c_fastRemove_b59b0_18 rfl (lv_at hl 3 rfl) ?_
  refine lv_icmp_le (tgt := 34) hx hb dJx4a65c_fastRemove_b59b0_19 (by decide) (fun c19 => ?_) (fun c19 => ?_)
  · replace c19 : (z - 1) ≤ i := (nI_leI (a := (z - 1)) (b := i) (by omega) (by omega)).mp c19
    refine lv_aload_n hx hb dJx4a65c_fastRemove_b59b0_34 rfl (lv_at hl 2 rfl) ?_
    refine lv_aload_n hx hb dJx4a65c_fastRemove_b59b0_35 rfl (lv_at hl 1 rfl) ?_
    refine lv_iload_n hx hb dJx4a65c_fastRemove_b59b0_36 rfl (lv_at hl 0 rfl) ?_
    refine lv_dup_x1 hx hb dJx4a65c_fastRemove_b59b0_37 rfl rfl ?_
    refine m_put (C := RJx4a65c) (T := TJx4a65c) (N := 3) (v := .int (nI (z - 1))) (Rp := fun h8 => h8 = mu (mu hh a (.inr (2, [.int (m0 + 1), .ref d0, .int (nI z)]))) a (.inr (2, [.int (m0 + 1), .ref d0, .int (nI (z - 1))]))) hx hb hts hi_Jx4a65c tyJx4a65c tyJx4a65c_ok nmJx4a65c hown hK hV hS 2 ⟨_, (mu_s _ _ _), Nat.le_of_ble_eq_true rfl, rfl⟩ rfl (by decide) k48 (fun _ h9 => h9) rfl (tyJx4a65c_ok 2 (by decide)) rfl rfl dJx4a65c_fastRemove_b59b0_38 (fun h9 H locs hV hS e9 => ?_)
    subst e9
    refine lv_null hx hb dJx4a65c_fastRemove_b59b0_41 ?_
    refine m_aastN (Rp := fun h8 => h8 = mu (mu (mu hh a (.inr (2, [.int (m0 + 1), .ref d0, .int (nI z)]))) a (.inr (2, [.int (m0 + 1), .ref d0, .int (nI (z - 1))]))) d0 (.inl (cs.2.2.2.2.1, n, .inr (.inr (.inr (.inr (va_up f (z - 1) none))))))) hx hb hK hV hS 4 (i := nI (z - 1)) ⟨((mu_n (m_dif hd ha nofun)).trans ((mu_n (m_dif hd ha nofun)).trans hd)), by rw [nI_clamp (by omega)]⟩ rfl (vp_in_nI (by omega) (by omega)) dJx4a65c_fastRemove_b59b0_42 (fun h9 H locs hV hS e9 => ?_)
    subst e9
    exact m_vret hx hb hr hlocks hV hS (rfl) dJx4a65c_fastRemove_b59b0_43
  · replace c19 : ¬ (z - 1) ≤ i := fun q9 => c19 ((nI_leI (a := (z - 1)) (b := i) (by omega) (by omega)).mpr q9)
    exfalso; omega
set_option maxHeartbeats 4000000 in
set_option maxRecDepth 100000 in
theorem c_Jx4a65c_remove_915e3_E {l : Launch} {D : va_G} {cs : mC} {df : Nat} {hh : mH} {m0 : Int32} {d0 z n : Nat} {f : Nat → Option Nat} (sz : Nat) (a : Nat) (i : Nat) (ha : hh a = some (.inr (2, [.int m0, .ref d0, .int (nI z)]))) (hd : hh d0 = some (.inl (cs.2.2.2.2.1, n, .inr (.inr (.inr (.inr f)))))) (hz : z ≤ n) (hn : n ≤ 100) (hi : i + 1 = z) (hel : ∀ j, j < n → ∀ y, f j = some y → isEl hh y) : Met l yJx4a65c_remove_915e3 wsJx4a65c_remove_915e3 ({ frames := 2, cells := 0, slots := 0, locals := 83 }) (mPre [.ref a, .int (nI i)] D cs df hh sz) (va_Qq ((fun (r : Option Nat) (h1 : mH) => h1 = (mu (mu (mu hh a (.inr (2, [.int (m0 + 1), .ref d0, .int (nI z)]))) a (.inr (2, [.int (m0 + 1), .ref d0, .int (nI (z - 1))]))) d0 (.inl (cs.2.2.2.2.1, n, .inr (.inr (.inr (.inr (va_up f (z - 1) none))))))) ∧ r = (f i))) (mB D hh sz) (mA hh sz)) 0 0 (mA hh sz) := by
  refine Met.ofW (cc := cJx4a65c_remove_915e3) (maxL := 4) (ret := (some (.object "java/lang/Object"))) (by decide) rfl ?_
  intro p e s m args below meth c s₁ B0 hml hv
  obtain ⟨hargs, hsz, hV, hE⟩ := hv
  subst hsz
  have hx := B0.exec
  have hb := B0.bytes
  have hr := B0.returns
  have hlocks := B0.notSynchronized
  have hts := atoms_spec (ws := wsJx4a65c_remove_915e3) B0.pre
  have hown : s.vm.findClass RJx4a65c = some m.cls := findClass_of_methodNamed B0.named
  have hK := hE.1.1
  have hA : ∀ q : Nat, s.heap.size ≤ q → mA hh s.heap.size q := mA.top
  have hS : va_S (mA hh s.heap.size) s.heap s.heap [] := va_S.rf
  have k48 : (Cond.fieldLink RJx4a65c 48 "java/util/ArrayList" "size" "I").before args s = true := hts _ (by decide +kernel)
  have hi_Jx4a65c : ∀ w ∈ u_ws RJx4a65c TJx4a65c 3, w ∈ wsJx4a65c_remove_915e3 := by decide +kernel
  have k9 : (Cond.fieldLink RJx4a65c 9 "java/util/ArrayList" "elementData" "[Ljava/lang/Object;").before args s = true := hts _ (by decide +kernel)
  have hl := lv_entry ([.ref a, .int (nI i)]) (n := 4) (by first | exact Nat.le_of_ble_eq_true rfl | simp [lg_sl, rf_cat, ct_ref, ct_int, ct_null, ct_long])
  have hent := lg_entry_eq m ([.ref a, .int (nI i)]) 4
  rw [← hargs] at hent
  rw [hent]
  generalize (lg_sl ([.ref a, .int (nI i)]) ++ List.replicate (4 - (lg_sl ([.ref a, .int (nI i)])).length) Slot.unset).toArray = ls at hl ⊢
  replace hl : lv_has ls 4 [(0, .ref a), (1, .int (nI i))] := hl
  refine lv_iload_n hx hb dJx4a65c_remove_915e3_0 rfl (lv_at hl 1 rfl) ?_
  refine lv_aload_n hx hb dJx4a65c_remove_915e3_1 rfl (lv_at hl 0 rfl) ?_
  refine m_get (C := RJx4a65c) (T := TJx4a65c) (N := 3) hx hb hts hi_Jx4a65c hown hK hV 2 (v := .int (nI z)) ⟨_, ha, rfl⟩ rfl (by decide) k48 (fun _ h9 => h9) dJx4a65c_remove_915e3_2 ?_
  refine m_calli (va_runS (As := [.int (nI i), .int (nI z)]) (rest := []) ⟨hx, hb, hml, hown, hts⟩ (c_J15_checkIndex_7cf53 (l := l) (D := D) (cs := cs) (df := df) (hh := hh) (s.heap.size) i z (by omega) (by omega)) (va_cwS 2 hts gJx4a65c_remove_915e3_J15_checkIndex_7cf53 rfl rfl rfl (by decide +kernel) ⟨by decide, by decide⟩) (m_preS hE hV hS hA) rfl rfl hl.1 rfl (lv_room (by first | exact Nat.le_of_ble_eq_true rfl | simp [rf_cat, ct_ref, ct_int, ct_null, ct_long])) dJx4a65c_remove_915e3_5 ⟨by decide, by decide⟩) hV hS hA (fun r h1 H locs hV hS hp _ => ?_)
  obtain ⟨e1, e2⟩ := hp
  subst e2
  rw [e1] at hV; clear e1
  refine lv_pop hx hb dJx4a65c_remove_915e3_8 rfl ?_
  refine lv_aload_n hx hb dJx4a65c_remove_915e3_9 rfl (lv_at hl 0 rfl) ?_
  refine m_get (C := RJx4a65c) (T := TJx4a65c) (N := 3) hx hb hts hi_Jx4a65c hown hK hV 1 (v := .ref d0) ⟨_, ha, rfl⟩ rfl (by decide) k9 (fun _ h9 => h9) dJx4a65c_remove_915e3_10 ?_
  refine lv_astore_n (lv' := [(2, .ref d0), (0, .ref a), (1, .int (nI i))]) hx hb dJx4a65c_remove_915e3_13 rfl hl (by decide) rfl (fun ls hl => ?_)
  refine lv_aload_n hx hb dJx4a65c_remove_915e3_14 rfl (lv_at hl 0 rfl) ?_
  refine lv_iload_n hx hb dJx4a65c_remove_915e3_15 rfl (lv_at hl 2 rfl) ?_
  refine m_aald hx hb hK hV 4 (i := nI i) (x := (f i)) hd rfl (vp_in_nI (by omega) (by omega)) (by rw [nI_clamp (by omega)] <;> rfl) dJx4a65c_remove_915e3_16 ?_
  refine m_astore_nq (i := 3) (lv' := [(3, va_rf (f i)), (2, .ref d0), (0, .ref a), (1, .int (nI i))]) hx hb dJx4a65c_remove_915e3_17 rfl hl (by decide) (by first | rfl | simp [rf_cat, ct_ref, ct_int, ct_long]) (fun ls hl => ?_)
  refine lv_aload_n hx hb dJx4a65c_remove_915e3_18 rfl (lv_at hl 2 rfl) ?_
  refine lv_aload_n hx hb dJx4a65c_remove_915e3_19 rfl (lv_at hl 1 rfl) ?_
  refine lv_iload_n hx hb dJx4a65c_remove_915e3_20 rfl (lv_at hl 3 rfl) ?_
  refine m_callv (va_runV (As := [.ref d0, .int (nI i)]) (rest := []) ⟨hx, hb, hml, hown, hts⟩ (c_Jx4a65c_fastRemove_b59b0_E (l := l) (D := D) (cs := cs) (df := df) (hh := hh) (H.size) a d0 i ha hd (by omega) (by omega) (by omega) (fun j9 hj9 y9 hy9 => (hel j9 hj9 y9 hy9))) (cwV 2 hts gJx4a65c_remove_915e3_Jx4a65c_fastRemove_b59b0 rfl rfl rfl (by decide +kernel) ⟨by decide, by decide⟩) (m_preV (r := (RJx4a65c, TJx4a65c, 3)) hE hV hS hA ha rfl) rfl rfl hl.1 rfl (lv_room (by first | exact Nat.le_of_ble_eq_true rfl | simp [rf_cat, ct_ref, ct_int, ct_null, ct_long])) dJx4a65c_remove_915e3_21 ⟨by decide, by decide⟩) hV hS hA (fun h1 H locs hV hS hp _ => ?_)
  have e1 := hp
  rw [e1] at hV; clear e1
  refine m_aload_nq hx hb dJx4a65c_remove_915e3_24 rfl (lv_at hl 0 rfl) ?_
  exact m_aret (v := (f i)) hx hb hr hlocks (Or.inl ⟨_, rfl⟩) hV hS (⟨rfl, rfl⟩) dJx4a65c_remove_915e3_25
