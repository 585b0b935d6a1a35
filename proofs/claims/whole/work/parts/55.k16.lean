set_option maxHeartbeats 4000000 in
set_option maxRecDepth 100000 in
theorem c_X0_init {l : Launch} {D : va_G} {cs : mC} {df : Nat} {hh : mH}  (sz : Nat) (q : Nat) (x0 : Int32) (hq : hh q = some (.inr (3, [.int 0, .int 0, .null]))) : Met l yX0_init wsX0_init ({ frames := 1, cells := 0, slots := 0, locals := 12 }) (mPre [.ref q, .int x0] D cs df hh sz) (va_Qv ((fun (h1 : mH) => h1 = (mu hh q (.inr (3, [.int x0, .int 0, .null]))))) (mB D hh sz) (mA hh sz)) 0 0 (mA hh sz) := by
  refine Met.ofW (cc := cX0_init) (maxL := 2) (ret := none) (by decide) rfl ?_
  intro p e s m args below meth c s₁ B0 hml hv
  obtain ⟨hargs, hsz, hV, hE⟩ := hv
  subst hsz
  have hx := B0.exec
  have hb := B0.bytes
  have hr := B0.returns
  have hlocks := B0.notSynchronized
  have hts := atoms_spec (ws := wsX0_init) B0.pre
  have hown : s.vm.findClass RX0 = some m.cls := findClass_of_methodNamed B0.named
  have hK := hE.1.1
  have hA : ∀ q : Nat, s.heap.size ≤ q → mA hh s.heap.size q := mA.top
  have hS : va_S (mA hh s.heap.size) s.heap s.heap [] := va_S.rf
  have k7 : (Cond.fieldLink RX0 7 "TaskKernel$Core" "speed" "I").before args s = true := hts _ (by decide +kernel)
  have hin9 : meth.name = "<init>" := (name_of_methodNamed B0.named B0.method).1
  have hi_X0 : ∀ w ∈ u_ws RX0 TX0 3, w ∈ wsX0_init := by decide +kernel
  have hl := lv_entry ([.ref q, .int x0]) (n := 2) (by first | exact Nat.le_of_ble_eq_true rfl | simp [lg_sl, rf_cat, ct_ref, ct_int, ct_null, ct_long])
  have hent := lg_entry_eq m ([.ref q, .int x0]) 2
  rw [← hargs] at hent
  rw [hent]
  generalize (lg_sl ([.ref q, .int x0]) ++ List.replicate (2 - (lg_sl ([.ref q, .int x0])).length) Slot.unset).toArray = ls at hl ⊢
  replace hl : lv_has ls 2 [(0, .ref q), (1, .int x0)] := hl
  refine lv_aload_n hx hb dX0_init_0 rfl (lv_at hl 0 rfl) ?_
  refine W.objInit hx hb hown (hts (.methodLink RX0 1 objectInit) (by decide +kernel)) (hts (.instanceMethod objectInit) (by decide +kernel)) (hts (.code objectInit ⟨#[0xb1]⟩ 1 none) (by decide +kernel)) rfl (by rw [hml]; exact hl.1) rfl dX0_init_1 (by decide) (Nat.le_of_ble_eq_true rfl) ?_
  refine W.eq (g2 := F0 m 4 ls _) rfl ?_
  refine lv_aload_n hx hb dX0_init_4 rfl (lv_at hl 0 rfl) ?_
  refine lv_iload_n hx hb dX0_init_5 rfl (lv_at hl 1 rfl) ?_
  refine m_putF (C := RX0) (T := TX0) (N := 3) (v := .int x0) (Rp := fun h8 => h8 = mu hh q (.inr (3, [.int x0, .int 0, .null]))) hx hb hts hi_X0 tyX0 tyX0_ok nmX0 hown hK hV hS 0 ⟨_, hq, Nat.le_of_ble_eq_true rfl, rfl⟩ rfl (by decide) k7 (fun _ h9 => h9) rfl hin9 rfl (tyX0_ok 0 (by decide)) rfl rfl dX0_init_6 (fun h9 H locs hV hS e9 => ?_)
  subst e9
  exact m_vret hx hb hr hlocks hV hS (by first | rfl | simp only [m_mm]) dX0_init_9
set_option maxHeartbeats 4000000 in
set_option maxRecDepth 100000 in
theorem c_X1_init {l : Launch} {D : va_G} {cs : mC} {df : Nat} {hh : mH}  (sz : Nat) (q : Nat) (n : Int32) (a : Nat) (u : Int32) (t : Int64) (hq : hh q = some (.inr (4, [.int 0, .null, .int 0, .long 0, .int 0, .int 0]))) : Met l yX1_init wsX1_init ({ frames := 1, cells := 0, slots := 0, locals := 12 }) (mPre [.ref q, .int n, .ref a, .int u, .long t] D cs df hh sz) (va_Qv ((fun (h1 : mH) => h1 = (mu hh q (.inr (4, [.int n, .ref a, .int u, .long t, .int 0, .int 0]))))) (mB D hh sz) (mA hh sz)) 0 0 (mA hh sz) := by
  refine Met.ofW (cc := cX1_init) (maxL := 6) (ret := none) (by decide) rfl ?_
  intro p e s m args below meth c s₁ B0 hml hv
  obtain ⟨hargs, hsz, hV, hE⟩ := hv
  subst hsz
  have hx := B0.exec
  have hb := B0.bytes
  have hr := B0.returns
  have hlocks := B0.notSynchronized
  have hts := atoms_spec (ws := wsX1_init) B0.pre
  have hown : s.vm.findClass RX1 = some m.cls := findClass_of_methodNamed B0.named
  have hK := hE.1.1
  have hA : ∀ q : Nat, s.heap.size ≤ q → mA hh s.heap.size q := mA.top
  have hS : va_S (mA hh s.heap.size) s.heap s.heap [] := va_S.rf
  have k7 : (Cond.fieldLink RX1 7 "TaskKernel$Group" "number" "I").before args s = true := hts _ (by decide +kernel)
  have hin9 : meth.name = "<init>" := (name_of_methodNamed B0.named B0.method).1
  have hi_X1 : ∀ w ∈ u_ws RX1 TX1 6, w ∈ wsX1_init := by decide +kernel
  have k13 : (Cond.fieldLink RX1 13 "TaskKernel$Group" "parent" "LTaskKernel$Group;").before args s = true := hts _ (by decide +kernel)
  have k17 : (Cond.fieldLink RX1 17 "TaskKernel$Group" "timePerUnit" "I").before args s = true := hts _ (by decide +kernel)
  have k20 : (Cond.fieldLink RX1 20 "TaskKernel$Group" "time" "J").before args s = true := hts _ (by decide +kernel)
  have hl := lv_entry ([.ref q, .int n, .ref a, .int u, .long t]) (n := 6) (by first | exact Nat.le_of_ble_eq_true rfl | simp [lg_sl, rf_cat, ct_ref, ct_int, ct_null, ct_long])
  have hent := lg_entry_eq m ([.ref q, .int n, .ref a, .int u, .long t]) 6
  rw [← hargs] at hent
  rw [hent]
  generalize (lg_sl ([.ref q, .int n, .ref a, .int u, .long t]) ++ List.replicate (6 - (lg_sl ([.ref q, .int n, .ref a, .int u, .long t])).length) Slot.unset).toArray = ls at hl ⊢
  replace hl : lv_has ls 6 [(0, .ref q), (1, .int n), (2, .ref a), (3, .int u), (4, .long t)] := hl
  refine lv_aload_n hx hb dX1_init_0 rfl (lv_at hl 0 rfl) ?_
  refine W.objInit hx hb hown (hts (.methodLink RX1 1 objectInit) (by decide +kernel)) (hts (.instanceMethod objectInit) (by decide +kernel)) (hts (.code objectInit ⟨#[0xb1]⟩ 1 none) (by decide +kernel)) rfl (by rw [hml]; exact hl.1) rfl dX1_init_1 (by decide) (Nat.le_of_ble_eq_true rfl) ?_
  refine W.eq (g2 := F0 m 4 ls _) rfl ?_
  refine lv_aload_n hx hb dX1_init_4 rfl (lv_at hl 0 rfl) ?_
  refine lv_iload_n hx hb dX1_init_5 rfl (lv_at hl 1 rfl) ?_
  refine m_putF (C := RX1) (T := TX1) (N := 6) (v := .int n) (Rp := fun h8 => h8 = mu hh q (.inr (4, [.int n, .null, .int 0, .long 0, .int 0, .int 0]))) hx hb hts hi_X1 tyX1 tyX1_ok nmX1 hown hK hV hS 0 ⟨_, hq, Nat.le_of_ble_eq_true rfl, rfl⟩ rfl (by decide) k7 (fun _ h9 => h9) rfl hin9 rfl (tyX1_ok 0 (by decide)) rfl rfl dX1_init_6 (fun h9 H locs hV hS e9 => ?_)
  subst e9
  refine lv_aload_n hx hb dX1_init_9 rfl (lv_at hl 0 rfl) ?_
  refine lv_aload_n hx hb dX1_init_10 rfl (lv_at hl 2 rfl) ?_
  refine m_putF (C := RX1) (T := TX1) (N := 6) (v := .ref a) (Rp := fun h8 => h8 = mu (mu hh q (.inr (4, [.int n, .null, .int 0, .long 0, .int 0, .int 0]))) q (.inr (4, [.int n, .ref a, .int 0, .long 0, .int 0, .int 0]))) hx hb hts hi_X1 tyX1 tyX1_ok nmX1 hown hK hV hS 1 ⟨_, (mu_s _ _ _), Nat.le_of_ble_eq_true rfl, rfl⟩ rfl (by decide) k13 (fun _ h9 => h9) rfl hin9 rfl (tyX1_ok 1 (by decide)) rfl rfl dX1_init_11 (fun h9 H locs hV hS e9 => ?_)
  subst e9
  refine lv_aload_n hx hb dX1_init_14 rfl (lv_at hl 0 rfl) ?_
  refine lv_iload_n hx hb dX1_init_15 rfl (lv_at hl 3 rfl) ?_
  refine m_putF (C := RX1) (T := TX1) (N := 6) (v := .int u) (Rp := fun h8 => h8 = mu (mu (mu hh q (.inr (4, [.int n, .null, .int 0, .long 0, .int 0, .int 0]))) q (.inr (4, [.int n, .ref a, .int 0, .long 0, .int 0, .int 0]))) q (.inr (4, [.int n, .ref a, .int u, .long 0, .int 0, .int 0]))) hx hb hts hi_X1 tyX1 tyX1_ok nmX1 hown hK hV hS 2 ⟨_, (mu_s _ _ _), Nat.le_of_ble_eq_true rfl, rfl⟩ rfl (by decide) k17 (fun _ h9 => h9) rfl hin9 rfl (tyX1_ok 2 (by decide)) rfl rfl dX1_init_16 (fun h9 H locs hV hS e9 => ?_)
  subst e9
  refine lv_aload_n hx hb dX1_init_19 rfl (lv_at hl 0 rfl) ?_
  refine lv_lload hx hb dX1_init_20 (lv_at hl 4 rfl) ?_
  refine m_put (C := RX1) (T := TX1) (N := 6) (v := .long t) (Rp := fun h8 => h8 = mu (mu (mu (mu hh q (.inr (4, [.int n, .null, .int 0, .long 0, .int 0, .int 0]))) q (.inr (4, [.int n, .ref a, .int 0, .long 0, .int 0, .int 0]))) q (.inr (4, [.int n, .ref a, .int u, .long 0, .int 0, .int 0]))) q (.inr (4, [.int n, .ref a, .int u, .long t, .int 0, .int 0]))) hx hb hts hi_X1 tyX1 tyX1_ok nmX1 hown hK hV hS 3 ⟨_, (mu_s _ _ _), Nat.le_of_ble_eq_true rfl, rfl⟩ rfl (by decide) k20 (fun _ h9 => h9) rfl (tyX1_ok 3 (by decide)) rfl rfl dX1_init_22 (fun h9 H locs hV hS e9 => ?_)
  subst e9
  exact m_vret hx hb hr hlocks hV hS (by first | rfl | simp only [m_mm]) dX1_init_25
set_option maxHeartbeats 4000000 in
set_option maxRecDepth 100000 in
theorem c_X3_init {l : Launch} {D : va_G} {cs : mC} {df : Nat} {hh : mH}  (sz : Nat) (q : Nat) (n : Int32) (a : Nat) (u : Int32) (t : Int64) (le : Int32) (hq : hh q = some (.inr (6, [.int 0, .null, .int 0, .long 0, .int 0, .int 0, .int 0, .int 0, .int 0, .int 0, .int 0, .int 0, .null, .null, .int 0, .int 0]))) : Met l yX3_init wsX3_init ({ frames := 1, cells := 0, slots := 0, locals := 12 }) (mPre [.ref q, .int n, .ref a, .int u, .long t, .int le] D cs df hh sz) (va_Qv ((fun (h1 : mH) => h1 = (mu hh q (.inr (6, [.int n, .ref a, .int u, .long t, .int le, .int 0, .int 0, .int 0, .int 0, .int 0, .int 0, .int 0, .null, .null, .int 0, .int 0]))))) (mB D hh sz) (mA hh sz)) 0 0 (mA hh sz) := by
  refine Met.ofW (cc := cX3_init) (maxL := 7) (ret := none) (by decide) rfl ?_
  intro p e s m args below meth c s₁ B0 hml hv
  obtain ⟨hargs, hsz, hV, hE⟩ := hv
  subst hsz
  have hx := B0.exec
  have hb := B0.bytes
  have hr := B0.returns
  have hlocks := B0.notSynchronized
  have hts := atoms_spec (ws := wsX3_init) B0.pre
  have hown : s.vm.findClass RX3 = some m.cls := findClass_of_methodNamed B0.named
  have hK := hE.1.1
  have hA : ∀ q : Nat, s.heap.size ≤ q → mA hh s.heap.size q := mA.top
  have hS : va_S (mA hh s.heap.size) s.heap s.heap [] := va_S.rf
  have k9 : (Cond.fieldLink RX3 9 "TaskKernel$Task" "number" "I").before args s = true := hts _ (by decide +kernel)
  have hin9 : meth.name = "<init>" := (name_of_methodNamed B0.named B0.method).1
  have hi_X3 : ∀ w ∈ u_ws RX3 TX3 16, w ∈ wsX3_init := by decide +kernel
  have k15 : (Cond.fieldLink RX3 15 "TaskKernel$Task" "group" "LTaskKernel$Group;").before args s = true := hts _ (by decide +kernel)
  have k19 : (Cond.fieldLink RX3 19 "TaskKernel$Task" "timePerUnit" "I").before args s = true := hts _ (by decide +kernel)
  have k22 : (Cond.fieldLink RX3 22 "TaskKernel$Task" "time" "J").before args s = true := hts _ (by decide +kernel)
  have k26 : (Cond.fieldLink RX3 26 "TaskKernel$Task" "left" "I").before args s = true := hts _ (by decide +kernel)
  have hl := lv_entry ([.ref q, .int n, .ref a, .int u, .long t, .int le]) (n := 7) (by first | exact Nat.le_of_ble_eq_true rfl | simp [lg_sl, rf_cat, ct_ref, ct_int, ct_null, ct_long])
  have hent := lg_entry_eq m ([.ref q, .int n, .ref a, .int u, .long t, .int le]) 7
  rw [← hargs] at hent
  rw [hent]
  generalize (lg_sl ([.ref q, .int n, .ref a, .int u, .long t, .int le]) ++ List.replicate (7 - (lg_sl ([.ref q, .int n, .ref a, .int u, .long t, .int le])).length) Slot.unset).toArray = ls at hl ⊢
  replace hl : lv_has ls 7 [(0, .ref q), (1, .int n), (2, .ref a), (3, .int u), (4, .long t), (6, .int le)] := hl
  refine lv_aload_n hx hb dX3_init_0 rfl (lv_at hl 0 rfl) ?_
  refine W.objInit hx hb hown (hts (.methodLink RX3 3 objectInit) (by decide +kernel)) (hts (.instanceMethod objectInit) (by decide +kernel)) (hts (.code objectInit ⟨#[0xb1]⟩ 1 none) (by decide +kernel)) rfl (by rw [hml]; exact hl.1) rfl dX3_init_1 (by decide) (Nat.le_of_ble_eq_true rfl) ?_
  refine W.eq (g2 := F0 m 4 ls _) rfl ?_
  refine lv_aload_n hx hb dX3_init_4 rfl (lv_at hl 0 rfl) ?_
  refine lv_iload_n hx hb dX3_init_5 rfl (lv_at hl 1 rfl) ?_
  refine m_putF (C := RX3) (T := TX3) (N := 16) (v := .int n) (Rp := fun h8 => h8 = mu hh q (.inr (6, [.int n, .null, .int 0, .long 0, .int 0, .int 0, .int 0, .int 0, .int 0, .int 0, .int 0, .int 0, .null, .null, .int 0, .int 0]))) hx hb hts hi_X3 tyX3 tyX3_ok nmX3 hown hK hV hS 0 ⟨_, hq, Nat.le_of_ble_eq_true rfl, rfl⟩ rfl (by decide) k9 (fun _ h9 => h9) rfl hin9 rfl (tyX3_ok 0 (by decide)) rfl rfl dX3_init_6 (fun h9 H locs hV hS e9 => ?_)
  subst e9
  refine lv_aload_n hx hb dX3_init_9 rfl (lv_at hl 0 rfl) ?_
  refine lv_aload_n hx hb dX3_init_10 rfl (lv_at hl 2 rfl) ?_
  refine m_putF (C := RX3) (T := TX3) (N := 16) (v := .ref a) (Rp := fun h8 => h8 = mu (mu hh q (.inr (6, [.int n, .null, .int 0, .long 0, .int 0, .int 0, .int 0, .int 0, .int 0, .int 0, .int 0, .int 0, .null, .null, .int 0, .int 0]))) q (.inr (6, [.int n, .ref a, .int 0, .long 0, .int 0, .int 0, .int 0, .int 0, .int 0, .int 0, .int 0, .int 0, .null, .null, .int 0, .int 0]))) hx hb hts hi_X3 tyX3 tyX3_ok nmX3 hown hK hV hS 1 ⟨_, (mu_s _ _ _), Nat.le_of_ble_eq_true rfl, rfl⟩ rfl (by decide) k15 (fun _ h9 => h9) rfl hin9 rfl (tyX3_ok 1 (by decide)) rfl rfl dX3_init_11 (fun h9 H locs hV hS e9 => ?_)
  subst e9
  refine lv_aload_n hx hb dX3_init_14 rfl (lv_at hl 0 rfl) ?_
  refine lv_iload_n hx hb dX3_init_15 rfl (lv_at hl 3 rfl) ?_
  refine m_putF (C := RX3) (T := TX3) (N := 16) (v := .int u) (Rp := fun h8 => h8 = mu (mu (mu hh q (.inr (6, [.int n, .null, .int 0, .long 0, .int 0, .int 0, .int 0, .int 0, .int 0, .int 0, .int 0, .int 0, .null, .null, .int 0, .int 0]))) q (.inr (6, [.int n, .ref a, .int 0, .long 0, .int 0, .int 0, .int 0, .int 0, .int 0, .int 0, .int 0, .int 0, .null, .null, .int 0, .int 0]))) q (.inr (6, [.int n, .ref a, .int u, .long 0, .int 0, .int 0, .int 0, .int 0, .int 0, .int 0, .int 0, .int 0, .null, .null, .int 0, .int 0]))) hx hb hts hi_X3 tyX3 tyX3_ok nmX3 hown hK hV hS 2 ⟨_, (mu_s _ _ _), Nat.le_of_ble_eq_true rfl, rfl⟩ rfl (by decide) k19 (fun _ h9 => h9) rfl hin9 rfl (tyX3_ok 2 (by decide)) rfl rfl dX3_init_16 (fun h9 H locs hV hS e9 => ?_)
  subst e9
  refine lv_aload_n hx hb dX3_init_19 rfl (lv_at hl 0 rfl) ?_
  refine lv_lload hx hb dX3_init_20 (lv_at hl 4 rfl) ?_
  refine m_put (C := RX3) (T := TX3) (N := 16) (v := .long t) (Rp := fun h8 => h8 = mu (mu (mu (mu hh q (.inr (6, [.int n, .null, .int 0, .long 0, .int 0, .int 0, .int 0, .int 0, .int 0, .int 0, .int 0, .int 0, .null, .null, .int 0, .int 0]))) q (.inr (6, [.int n, .ref a, .int 0, .long 0, .int 0, .int 0, .int 0, .int 0, .int 0, .int 0, .int 0, .int 0, .null, .null, .int 0, .int 0]))) q (.inr (6, [.int n, .ref a, .int u, .long 0, .int 0, .int 0, .int 0, .int 0, .int 0, .int 0, .int 0, .int 0, .null, .null, .int 0, .int 0]))) q (.inr (6, [.int n, .ref a, .int u, .long t, .int 0, .int 0, .int 0, .int 0, .int 0, .int 0, .int 0, .int 0, .null, .null, .int 0, .int 0]))) hx hb hts hi_X3 tyX3 tyX3_ok nmX3 hown hK hV hS 3 ⟨_, (mu_s _ _ _), Nat.le_of_ble_eq_true rfl, rfl⟩ rfl (by decide) k22 (fun _ h9 => h9) rfl (tyX3_ok 3 (by decide)) rfl rfl dX3_init_22 (fun h9 H locs hV hS e9 => ?_)
  subst e9
  refine lv_aload_n hx hb dX3_init_25 rfl (lv_at hl 0 rfl) ?_
  refine lv_iload hx hb dX3_init_26 (lv_at hl 5 rfl) ?_
  refine m_put (C := RX3) (T := TX3) (N := 16) (v := .int le) (Rp := fun h8 => h8 = mu (mu (mu (mu (mu hh q (.inr (6, [.int n, .null, .int 0, .long 0, .int 0, .int 0, .int 0, .int 0, .int 0, .int 0, .int 0, .int 0, .null, .null, .int 0, .int 0]))) q (.inr (6, [.int n, .ref a, .int 0, .long 0, .int 0, .int 0, .int 0, .int 0, .int 0, .int 0, .int 0, .int 0, .null, .null, .int 0, .int 0]))) q (.inr (6, [.int n, .ref a, .int u, .long 0, .int 0, .int 0, .int 0, .int 0, .int 0, .int 0, .int 0, .int 0, .null, .null, .int 0, .int 0]))) q (.inr (6, [.int n, .ref a, .int u, .long t, .int 0, .int 0, .int 0, .int 0, .int 0, .int 0, .int 0, .int 0, .null, .null, .int 0, .int 0]))) q (.inr (6, [.int n, .ref a, .int u, .long t, .int le, .int 0, .int 0, .int 0, .int 0, .int 0, .int 0, .int 0, .null, .null, .int 0, .int 0]))) hx hb hts hi_X3 tyX3 tyX3_ok nmX3 hown hK hV hS 4 ⟨_, (mu_s _ _ _), Nat.le_of_ble_eq_true rfl, rfl⟩ rfl (by decide) k26 (fun _ h9 => h9) rfl (tyX3_ok 4 (by decide)) rfl rfl dX3_init_28 (fun h9 H locs hV hS e9 => ?_)
  subst e9
  exact m_vret hx hb hr hlocks hV hS (by first | rfl | simp only [m_mm]) dX3_init_31
