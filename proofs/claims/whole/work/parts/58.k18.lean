set_option maxHeartbeats 4000000 in
set_option maxRecDepth 100000 in
theorem c_X1_init_R {l : Launch} {D : va_G} {cs : mC} {df : Nat} {hh : mH}  (sz : Nat) (q : Nat) (n : Int32) (u : Int32) (t : Int64) (hq : hh q = some (.inr (4, [.int 0, .null, .int 0, .long 0, .int 0, .int 0]))) : Met l yX1_init wsX1_init ({ frames := 1, cells := 0, slots := 0, locals := 12 }) (mPre [.ref q, .int n, .null, .int u, .long t] D cs df hh sz) (va_Qv ((fun (h1 : mH) => h1 = (mu hh q (.inr (4, [.int n, .null, .int u, .long t, .int 0, .int 0]))))) (mB D hh sz) (mA hh sz)) 0 0 (mA hh sz) := by
  refine Met.ofW (cc := cX1_init) (maxL := 6) (ret := none) (by decide) rfl ?_
  intro p e s m args below meth c s₁ B0 hml hv
  obtain ⟨hargs, hsz, hV, hE⟩ := hv
  subst hsz
  have hx := B0.exec
  have hb := B0.bytes
  have hr := B0.returns
  have hlocks := B0.notSynchronized
  have hts := atoms_spec (ws := wsX1_init) B0.pre
  have hown : s.vm.findClass RX1 = some m.cls := findClass_of_methodNamed B0.named
  have hK := hE.1.1
  have hA : ∀ q : Nat, s.heap.size ≤ q → mA hh s.heap.size q := mA.top
  have hS : va_S (mA hh s.heap.size) s.heap s.heap [] := va_S.rf
  have k7 : (Cond.fieldLink RX1 7 "TaskKernel$Group" "number" "I").before args s = true := hts _ (by decide +kernel)
  have hin9 : meth.name = "<init>" := (name_of_methodNamed B0.named B0.method).1
  have hi_X1 : ∀ w ∈ u_ws RX1 TX1 6, w ∈ wsX1_init := by decide +kernel
  have k13 : (Cond.fieldLink RX1 13 "TaskKernel$Group" "parent" "LTaskKernel$Group;").before args s = true := hts _ (by decide +kernel)
  have k17 : (Cond.fieldLink RX1 17 "TaskKernel$Group" "timePerUnit" "I").before args s = true := hts _ (by decide +kernel)
  have k20 : (Cond.fieldLink RX1 20 "TaskKernel$Group" "time" "J").before args s = true := hts _ (by decide +kernel)
  have hl := lv_entry ([.ref q, .int n, .null, .int u, .long t]) (n := 6) (by first | exact Nat.le_of_ble_eq_true rfl | simp [lg_sl, rf_cat, ct_ref, ct_int, ct_null, ct_long])
  have hent := lg_entry_eq m ([.ref q, .int n, .null, .int u, .long t]) 6
  rw [← hargs] at hent
  rw [hent]
  generalize (lg_sl ([.ref q, .int n, .null, .int u, .long t]) ++ List.replicate (6 - (lg_sl ([.ref q, .int n, .null, .int u, .long t])).length) Slot.unset).toArray = ls at hl ⊢
  replace hl : lv_has ls 6 [(0, .ref q), (1, .int n), (2, .null), (3, .int u), (4, .long t)] := hl
  refine lv_aload_n hx hb dX1_init_0 rfl (lv_at hl 0 rfl) ?_
  refine W.objInit hx hb hown (hts (.methodLink RX1 1 objectInit) (by decide +kernel)) (hts (.instanceMethod objectInit) (by decide +kernel)) (hts (.code objectInit ⟨#[0xb1]⟩ 1 none) (by decide +kernel)) rfl (by rw [hml]; exact hl.1) rfl dX1_init_1 (by decide) (Nat.le_of_ble_eq_true rfl) ?_
  refine W.eq (g2 := F0 m 4 ls _) rfl ?_
  refine lv_aload_n hx hb dX1_init_4 rfl (lv_at hl 0 rfl) ?_
  refine lv_iload_n hx hb dX1_init_5 rfl (lv_at hl 1 rfl) ?_
  refine m_putF (C := RX1) (T := TX1) (N := 6) (v := .int n) (Rp := fun h8 => h8 = mu hh q (.inr (4, [.int n, .null, .int 0, .long 0, .int 0, .int 0]))) hx hb hts hi_X1 tyX1 tyX1_ok nmX1 hown hK hV hS 0 ⟨_, hq, Nat.le_of_ble_eq_true rfl, rfl⟩ rfl (by decide) k7 (fun _ h9 => h9) rfl hin9 rfl (tyX1_ok 0 (by decide)) rfl rfl dX1_init_6 (fun h9 H locs hV hS e9 => ?_)
  subst e9
  refine lv_aload_n hx hb dX1_init_9 rfl (lv_at hl 0 rfl) ?_
  refine lv_aload_nN hx hb dX1_init_10 rfl (lv_at hl 2 rfl) ?_
  refine m_putF (C := RX1) (T := TX1) (N := 6) (v := .null) (Rp := fun h8 => h8 = mu (mu hh q (.inr (4, [.int n, .null, .int 0, .long 0, .int 0, .int 0]))) q (.inr (4, [.int n, .null, .int 0, .long 0, .int 0, .int 0]))) hx hb hts hi_X1 tyX1 tyX1_ok nmX1 hown hK hV hS 1 ⟨_, (mu_s _ _ _), Nat.le_of_ble_eq_true rfl, rfl⟩ rfl (by decide) k13 (fun _ h9 => h9) rfl hin9 rfl (tyX1_ok 1 (by decide)) rfl rfl dX1_init_11 (fun h9 H locs hV hS e9 => ?_)
  subst e9
  refine lv_aload_n hx hb dX1_init_14 rfl (lv_at hl 0 rfl) ?_
  refine lv_iload_n hx hb dX1_init_15 rfl (lv_at hl 3 rfl) ?_
  refine m_putF (C := RX1) (T := TX1) (N := 6) (v := .int u) (Rp := fun h8 => h8 = mu (mu (mu hh q (.inr (4, [.int n, .null, .int 0, .long 0, .int 0, .int 0]))) q (.inr (4, [.int n, .null, .int 0, .long 0, .int 0, .int 0]))) q (.inr (4, [.int n, .null, .int u, .long 0, .int 0, .int 0]))) hx hb hts hi_X1 tyX1 tyX1_ok nmX1 hown hK hV hS 2 ⟨_, (mu_s _ _ _), Nat.le_of_ble_eq_true rfl, rfl⟩ rfl (by decide) k17 (fun _ h9 => h9) rfl hin9 rfl (tyX1_ok 2 (by decide)) rfl rfl dX1_init_16 (fun h9 H locs hV hS e9 => ?_)
  subst e9
  refine lv_aload_n hx hb dX1_init_19 rfl (lv_at hl 0 rfl) ?_
  refine lv_lload hx hb dX1_init_20 (lv_at hl 4 rfl) ?_
  refine m_put (C := RX1) (T := TX1) (N := 6) (v := .long t) (Rp := fun h8 => h8 = mu (mu (mu (mu hh q (.inr (4, [.int n, .null, .int 0, .long 0, .int 0, .int 0]))) q (.inr (4, [.int n, .null, .int 0, .long 0, .int 0, .int 0]))) q (.inr (4, [.int n, .null, .int u, .long 0, .int 0, .int 0]))) q (.inr (4, [.int n, .null, .int u, .long t, .int 0, .int 0]))) hx hb hts hi_X1 tyX1 tyX1_ok nmX1 hown hK hV hS 3 ⟨_, (mu_s _ _ _), Nat.le_of_ble_eq_true rfl, rfl⟩ rfl (by decide) k20 (fun _ h9 => h9) rfl (tyX1_ok 3 (by decide)) rfl rfl dX1_init_22 (fun h9 H locs hV hS e9 => ?_)
  subst e9
  exact m_vret hx hb hr hlocks hV hS ((by first | rfl | simp only [m_mm])) dX1_init_25
set_option maxHeartbeats 4000000 in
set_option maxRecDepth 100000 in
theorem c_X2_init {l : Launch} {D : va_G} {cs : mC} {df : Nat} {hh : mH}  (sz : Nat) (q : Nat) (hq : hh q = some (.inr (5, [.null, .null]))) : Met l yX2_init wsX2_init ({ frames := 4, cells := 1, slots := 3, locals := 72 }) (mPre [.ref q] D cs df hh sz) (va_Qv ((fun (h1 : mH) => ∃ q5 : Nat, hh q5 = none ∧ h1 = (mu (mu (mu hh q5 (.inr (2, [.int 0, .null, .int 0]))) q5 (.inr (2, [.int 0, .ref df, .int 0]))) q (.inr (5, [.null, .ref q5]))))) (mB D hh sz) (mA hh sz)) 1 3 (mA hh sz) := by
  refine Met.ofW (cc := cX2_init) (maxL := 1) (ret := none) (by decide) rfl ?_
  intro p e s m args below meth c s₁ B0 hml hv
  obtain ⟨hargs, hsz, hV, hE⟩ := hv
  subst hsz
  have hx := B0.exec
  have hb := B0.bytes
  have hr := B0.returns
  have hlocks := B0.notSynchronized
  have hts := atoms_spec (ws := wsX2_init) B0.pre
  have hown : s.vm.findClass RX2 = some m.cls := findClass_of_methodNamed B0.named
  have hK := hE.1.1
  have hA : ∀ q : Nat, s.heap.size ≤ q → mA hh s.heap.size q := mA.top
  have hS : va_S (mA hh s.heap.size) s.heap s.heap [] := va_S.rf
  have kc7 : (Cond.classLink RX2 7 "java/util/ArrayList").before args s = true := hts _ (by decide +kernel)
  have hi_Jx4a65c : ∀ w ∈ u_ws RJx4a65c TJx4a65c 3, w ∈ wsX2_init := by decide +kernel
  have k10 : (Cond.fieldLink RX2 10 "TaskKernel$Lock" "waiters" "Ljava/util/ArrayList;").before args s = true := hts _ (by decide +kernel)
  have hin9 : meth.name = "<init>" := (name_of_methodNamed B0.named B0.method).1
  have hi_X2 : ∀ w ∈ u_ws RX2 TX2 2, w ∈ wsX2_init := by decide +kernel
  have hl := lv_entry ([.ref q]) (n := 1) (by first | exact Nat.le_of_ble_eq_true rfl | simp [lg_sl, rf_cat, ct_ref, ct_int, ct_null, ct_long])
  have hent := lg_entry_eq m ([.ref q]) 1
  rw [← hargs] at hent
  rw [hent]
  generalize (lg_sl ([.ref q]) ++ List.replicate (1 - (lg_sl ([.ref q])).length) Slot.unset).toArray = ls at hl ⊢
  replace hl : lv_has ls 1 [(0, .ref q)] := hl
  refine lv_aload_n hx hb dX2_init_0 rfl (lv_at hl 0 rfl) ?_
  refine W.objInit hx hb hown (hts (.methodLink RX2 1 objectInit) (by decide +kernel)) (hts (.instanceMethod objectInit) (by decide +kernel)) (hts (.code objectInit ⟨#[0xb1]⟩ 1 none) (by decide +kernel)) rfl (by rw [hml]; exact hl.1) rfl dX2_init_1 (by decide) (Nat.le_of_ble_eq_true rfl) ?_
  refine W.eq (g2 := F0 m 4 ls _) rfl ?_
  refine lv_aload_n hx hb dX2_init_4 rfl (lv_at hl 0 rfl) ?_
  refine m_newo (ci := 2) (fs := [.int 0, .null, .int 0]) (C := RJx4a65c) (T := TJx4a65c) (N := 3) hx hb hts hi_Jx4a65c tyJx4a65c tyJx4a65c_ok hown kc7 (hts (.instantiable RJx4a65c 3) (by decide +kernel)) (hts (.initialized RJx4a65c) (by decide +kernel)) hK hV hS hA rfl (fun j hj => match j, hj with | 0, _ => rfl | 1, _ => rfl | 2, _ => rfl | n + 3, h9 => absurd h9 (by omega)) (by decide) (by decide) dX2_init_5 (fun q5 H eq5 hV hS => ?_)
  refine lv_dup hx hb dX2_init_8 rfl ?_
  refine m_callv (va_runI (As := []) (rest := [.ref q5, .ref q]) ⟨hx, hb, hml, hown, hts⟩ (c_Jx4a65c_init_da8c8 (l := l) (D := D) (cs := cs) (df := df) (hh := (mu hh q5 (.inr (2, [.int 0, .null, .int 0])))) (H.size) q5 (show _ = some (.inr (2, [.int 0, va_rf none, .int 0])) from (mu_s _ _ _))) (cwI 0 hts gX2_init_Jx4a65c_init_da8c8 rfl rfl rfl (hts (.initialized RJx4a65c) (by decide +kernel)) (hts (.methodLink RX2 9 yJx4a65c_init_da8c8) (by decide +kernel)) (hts (.instanceMethod yJx4a65c_init_da8c8) (by decide +kernel)) rfl (by decide +kernel) ⟨by decide, by decide⟩) (m_preS hE hV hS hA) rfl rfl hl.1 rfl (lv_room (by first | exact Nat.le_of_ble_eq_true rfl | simp [rf_cat, ct_ref, ct_int, ct_null, ct_long])) dX2_init_9 ⟨by decide, by decide⟩) hV hS hA (fun h1 H locs hV hS hp _ => ?_)
  have e1 := hp
  rw [e1] at hV; clear e1
  refine m_putF (C := RX2) (T := TX2) (N := 2) (v := .ref q5) (Rp := fun h8 => h8 = mu (mu (mu hh q5 (.inr (2, [.int 0, .null, .int 0]))) q5 (.inr (2, [.int 0, .ref df, .int 0]))) q (.inr (5, [.null, .ref q5]))) hx hb hts hi_X2 tyX2 tyX2_ok nmX2 hown hK hV hS 1 ⟨_, ((mu_n (m_fresh eq5 hq)).trans ((mu_n (m_fresh eq5 hq)).trans hq)), Nat.le_of_ble_eq_true rfl, rfl⟩ rfl (by decide) k10 (fun _ h9 => h9) rfl hin9 rfl (tyX2_ok 1 (by decide)) rfl rfl dX2_init_12 (fun h9 H locs hV hS e9 => ?_)
  subst e9
  exact m_vret hx hb hr hlocks hV hS (⟨q5, eq5, rfl⟩) dX2_init_15
