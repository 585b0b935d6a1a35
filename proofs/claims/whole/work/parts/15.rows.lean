theorem oI_m1 {o : Option Nat} (h : ∀ k, o = some k → k < 2 ^ 31) : oI o = -1 ↔ o = none := by
  cases o with
  | none => exact ⟨fun _ => rfl, fun _ => rfl⟩
  | some k =>
    refine ⟨fun e => ?_, fun e => nomatch e⟩
    have hk := h k rfl
    have h1 : (nI k).toInt = (-1 : Int32).toInt := congrArg Int32.toInt (show nI k = -1 from e)
    rw [nI_toInt hk] at h1
    have h2 : (-1 : Int32).toInt = -1 := by decide
    omega
theorem oI_n {o : Option Nat} {t : Nat} (h : ∀ k, o = some k → k < 2 ^ 31) (ht : t < 2 ^ 31) : oI o = nI t ↔ o = some t := by
  cases o with
  | none =>
    refine ⟨fun e => ?_, fun e => nomatch e⟩
    have h1 : (-1 : Int32).toInt = (nI t).toInt := congrArg Int32.toInt (show -1 = nI t from e)
    rw [nI_toInt ht] at h1
    have h2 : (-1 : Int32).toInt = -1 := by decide
    omega
  | some k =>
    have hk := h k rfl
    refine ⟨fun e => ?_, fun e => ?_⟩
    · exact congrArg some ((nI_eq hk ht).mp e)
    · cases e; rfl
theorem bI_0 {b : Bool} : bI b = 0 ↔ b = false := by cases b <;> decide
theorem bI_1 {b : Bool} : ¬ bI b = 0 ↔ b = true := by cases b <;> decide
theorem inR_some {x : Int32} {n t : Nat} (h : inR x n = some t) : x = nI t ∧ t < n := by
  unfold inR at h
  split at h
  · rename_i hx
    cases h
    refine ⟨?_, by omega⟩
    apply Int32.toInt_inj.mp
    have h2 : x.toInt < 2 ^ 31 := Int32.toInt_lt x
    rw [nI_toInt (by omega)]
    omega
  · cases h
theorem inR_none {x : Int32} {n : Nat} (h : inR x n = none) : x.toInt < 0 ∨ (n : Int) ≤ x.toInt := by
  unfold inR at h
  split at h
  · cases h
  · omega
theorem inR_nI {n t : Nat} (ht : t < n) (hn : n < 2 ^ 31) : inR (nI t) n = some t := by
  unfold inR
  rw [nI_toInt (by omega), if_pos (by omega)]
  simp
theorem inR_lt0 {x : Int32} {n : Nat} (h : x < 0) : inR x n = none := by
  unfold inR
  have : x.toInt < 0 := by simpa using Int32.lt_iff_toInt_lt.mp h
  rw [if_neg (by omega)]
theorem inR_ge {x : Int32} {n : Nat} (hn : n < 2 ^ 31) (h : nI n ≤ x) : inR x n = none := by
  unfold inR
  have h1 := Int32.le_iff_toInt_le.mp h
  rw [nI_toInt hn] at h1
  rw [if_neg (by omega)]
theorem inR_mid {x : Int32} {n : Nat} (hn : n < 2 ^ 31) (h0 : ¬ x < 0) (h : ¬ nI n ≤ x) : ∃ t, inR x n = some t ∧ x = nI t ∧ t < n := by
  cases hx : inR x n with
  | some t => exact ⟨t, rfl, inR_some hx⟩
  | none =>
    exfalso
    rcases inR_none hx with q | q
    · exact h0 (Int32.lt_iff_toInt_lt.mpr (by simpa using q))
    · exact h (Int32.le_iff_toInt_le.mpr (by rw [nI_toInt hn]; exact q))
theorem rf_cat (r : Option Nat) : (va_rf r).category = 1 := by cases r <;> rfl
theorem ct_ref (a : Nat) : (Value.ref a).category = 1 := rfl
theorem ct_int (a : Int32) : (Value.int a).category = 1 := rfl
theorem ct_null : Value.null.category = 1 := rfl
theorem ct_long (a : Int64) : (Value.long a).category = 2 := rfl
theorem map_inj {f : Nat → Nat} {o : Option Nat} {t : Nat} (h : ∀ k, o = some k → f k = f t → k = t) : o.map f = some (f t) ↔ o = some t := by
  cases o with
  | none => simp
  | some k =>
    refine ⟨fun e => ?_, fun e => by cases e; rfl⟩
    exact congrArg some (h k rfl (Option.some.inj e))
section MR
variable {p : Program} {l : Launch} {e : Env} {R : Room} {s : State} {m : MethodId} {args : Array Value} {below : List Frame} {meth : Method} {c : Code} {H : Heap} {locs : List Loc} {cells slots : Nat} {Q : State → Prop}
variable {cc : ByteArray} {pc : Nat} {ls : Array Slot} {rest : List Value}
theorem m_top {x y : Value} (h : x = y) (k : W p l e R s m args below meth c H locs cells slots Q (F0 m pc ls (y :: rest))) : W p l e R s m args below meth c H locs cells slots Q (F0 m pc ls (x :: rest)) := by subst h; exact k
theorem m_topi {x y : Int32} (h : x = y) (k : W p l e R s m args below meth c H locs cells slots Q (F0 m pc ls (.int y :: rest))) : W p l e R s m args below meth c H locs cells slots Q (F0 m pc ls (.int x :: rest)) := by subst h; exact k
theorem m_topl {x y : Int64} (h : x = y) (k : W p l e R s m args below meth c H locs cells slots Q (F0 m pc ls (.long y :: rest))) : W p l e R s m args below meth c H locs cells slots Q (F0 m pc ls (.long x :: rest)) := by subst h; exact k
theorem m_ifnull_q (hx : p.tables.exec = Jvm.exec) (hb : c.code = cc) {o : Option Nat} {f : Nat → Nat} {off : Int} {tgt : Nat} (hdg : decode cc pc = .ok (.ifnull off, 3)) (ht : (pc : Int) + off = (tgt : Int)) (kn : o = none → W p l e R s m args below meth c H locs cells slots Q (F0 m tgt ls rest)) (ks : ∀ k, o = some k → W p l e R s m args below meth c H locs cells slots Q (F0 m (pc + 3) ls rest)) : W p l e R s m args below meth c H locs cells slots Q (F0 m pc ls (va_rf (o.map f) :: rest)) := by
  cases ho : o with
  | none => exact lv_ifnullN hx hb hdg ht (kn ho)
  | some k => exact lv_ifnull hx hb hdg (ks k ho)
theorem m_ifnonnull_q (hx : p.tables.exec = Jvm.exec) (hb : c.code = cc) {o : Option Nat} {f : Nat → Nat} {off : Int} {tgt : Nat} (hdg : decode cc pc = .ok (.ifnonnull off, 3)) (ht : (pc : Int) + off = (tgt : Int)) (ks : ∀ k, o = some k → W p l e R s m args below meth c H locs cells slots Q (F0 m tgt ls rest)) (kn : o = none → W p l e R s m args below meth c H locs cells slots Q (F0 m (pc + 3) ls rest)) : W p l e R s m args below meth c H locs cells slots Q (F0 m pc ls (va_rf (o.map f) :: rest)) := by
  cases ho : o with
  | none => exact lv_ifnonnullN hx hb hdg (kn ho)
  | some k => exact lv_ifnonnull hx hb hdg ht (ks k ho)
theorem m_aload_nq (hx : p.tables.exec = Jvm.exec) (hb : c.code = cc) {k : Fin 4} {i : Nat} {r : Option Nat} (hdg : decode cc pc = .ok (.aload_n k, 1)) (hi : (k : Nat) = i) (hl : ls[i]? = some (.val (va_rf r))) (kk : W p l e R s m args below meth c H locs cells slots Q (F0 m (pc + 1) ls (va_rf r :: rest))) : W p l e R s m args below meth c H locs cells slots Q (F0 m pc ls rest) := by
  cases r with
  | none => exact lv_aload_nN hx hb hdg hi hl kk
  | some a => exact lv_aload_n hx hb hdg hi hl kk
theorem m_aload_q (hx : p.tables.exec = Jvm.exec) (hb : c.code = cc) {i : Nat} {r : Option Nat} (hdg : decode cc pc = .ok (.aload i, 2)) (hl : ls[i]? = some (.val (va_rf r))) (kk : W p l e R s m args below meth c H locs cells slots Q (F0 m (pc + 2) ls (va_rf r :: rest))) : W p l e R s m args below meth c H locs cells slots Q (F0 m pc ls rest) := by
  cases r with
  | none => exact lv_aloadN hx hb hdg hl kk
  | some a => exact lv_aload hx hb hdg hl kk
theorem m_astore_nq (hx : p.tables.exec = Jvm.exec) (hb : c.code = cc) {k : Fin 4} {i nL : Nat} {r : Option Nat} {lv lv' : List (Nat × Value)} (hdg : decode cc pc = .ok (.astore_n k, 1)) (hi : (k : Nat) = i) (h : lv_has ls nL lv) (hn : i < nL) (hl : (i, va_rf r) :: lv.filter (fun q => !(q.1 == i) && !(q.1 + 1 == i && q.2.category == 2)) = lv') (kk : ∀ ls' : Array Slot, lv_has ls' nL lv' → W p l e R s m args below meth c H locs cells slots Q (F0 m (pc + 1) ls' rest)) : W p l e R s m args below meth c H locs cells slots Q (F0 m pc ls (va_rf r :: rest)) := by
  cases r with
  | none => exact lv_astore_nN hx hb hdg hi h hn hl kk
  | some a => exact lv_astore_n hx hb hdg hi h hn hl kk
theorem m_astore_q (hx : p.tables.exec = Jvm.exec) (hb : c.code = cc) {i nL : Nat} {r : Option Nat} {lv lv' : List (Nat × Value)} (hdg : decode cc pc = .ok (.astore i, 2)) (h : lv_has ls nL lv) (hn : i < nL) (hl : (i, va_rf r) :: lv.filter (fun q => !(q.1 == i) && !(q.1 + 1 == i && q.2.category == 2)) = lv') (kk : ∀ ls' : Array Slot, lv_has ls' nL lv' → W p l e R s m args below meth c H locs cells slots Q (F0 m (pc + 2) ls' rest)) : W p l e R s m args below meth c H locs cells slots Q (F0 m pc ls (va_rf r :: rest)) := by
  cases r with
  | none => exact lv_astoreN hx hb hdg h hn hl kk
  | some a => exact lv_astore hx hb hdg h hn hl kk
theorem m_lcmp_gt (hx : p.tables.exec = Jvm.exec) (hb : c.code = cc) {x y : Int64} {off : Int} {tgt : Nat} (d1 : decode cc pc = .ok (.lcmp, 1)) (d2 : decode cc (pc + 1) = .ok (.ifCond .gt off, 3)) (ht : ((pc + 1 : Nat) : Int) + off = (tgt : Int)) (kt : y < x → W p l e R s m args below meth c H locs cells slots Q (F0 m tgt ls rest)) (kf : ¬ y < x → W p l e R s m args below meth c H locs cells slots Q (F0 m (pc + 1 + 3) ls rest)) : W p l e R s m args below meth c H locs cells slots Q (F0 m pc ls (.long y :: .long x :: rest)) :=
  W.lcmp hx hb d1 (lv_if_gt hx hb d2 ht (fun q => kt ((lg_cmp_gt x y).mp q)) (fun q => kf (fun z => q ((lg_cmp_gt x y).mpr z))))
theorem m_lcmp_lt (hx : p.tables.exec = Jvm.exec) (hb : c.code = cc) {x y : Int64} {off : Int} {tgt : Nat} (d1 : decode cc pc = .ok (.lcmp, 1)) (d2 : decode cc (pc + 1) = .ok (.ifCond .lt off, 3)) (ht : ((pc + 1 : Nat) : Int) + off = (tgt : Int)) (kt : x < y → W p l e R s m args below meth c H locs cells slots Q (F0 m tgt ls rest)) (kf : ¬ x < y → W p l e R s m args below meth c H locs cells slots Q (F0 m (pc + 1 + 3) ls rest)) : W p l e R s m args below meth c H locs cells slots Q (F0 m pc ls (.long y :: .long x :: rest)) :=
  W.lcmp hx hb d1 (lv_if_lt hx hb d2 ht (fun q => kt ((lg_cmp_lt x y).mp q)) (fun q => kf (fun z => q ((lg_cmp_lt x y).mpr z))))
theorem m_lcmp_ge (hx : p.tables.exec = Jvm.exec) (hb : c.code = cc) {x y : Int64} {off : Int} {tgt : Nat} (d1 : decode cc pc = .ok (.lcmp, 1)) (d2 : decode cc (pc + 1) = .ok (.ifCond .ge off, 3)) (ht : ((pc + 1 : Nat) : Int) + off = (tgt : Int)) (kt : y ≤ x → W p l e R s m args below meth c H locs cells slots Q (F0 m tgt ls rest)) (kf : ¬ y ≤ x → W p l e R s m args below meth c H locs cells slots Q (F0 m (pc + 1 + 3) ls rest)) : W p l e R s m args below meth c H locs cells slots Q (F0 m pc ls (.long y :: .long x :: rest)) :=
  W.lcmp hx hb d1 (lv_if_ge hx hb d2 ht (fun q => kt ((lg_cmp_ge x y).mp q)) (fun q => kf (fun z => q ((lg_cmp_ge x y).mpr z))))
theorem m_lcmp_le (hx : p.tables.exec = Jvm.exec) (hb : c.code = cc) {x y : Int64} {off : Int} {tgt : Nat} (d1 : decode cc pc = .ok (.lcmp, 1)) (d2 : decode cc (pc + 1) = .ok (.ifCond .le off, 3)) (ht : ((pc + 1 : Nat) : Int) + off = (tgt : Int)) (kt : x ≤ y → W p l e R s m args below meth c H locs cells slots Q (F0 m tgt ls rest)) (kf : ¬ x ≤ y → W p l e R s m args below meth c H locs cells slots Q (F0 m (pc + 1 + 3) ls rest)) : W p l e R s m args below meth c H locs cells slots Q (F0 m pc ls (.long y :: .long x :: rest)) :=
  W.lcmp hx hb d1 (lv_if_le hx hb d2 ht (fun q => kt ((lg_cmp_le x y).mp q)) (fun q => kf (fun z => q ((lg_cmp_le x y).mpr z))))
theorem m_lcmp_eq (hx : p.tables.exec = Jvm.exec) (hb : c.code = cc) {x y : Int64} {off : Int} {tgt : Nat} (d1 : decode cc pc = .ok (.lcmp, 1)) (d2 : decode cc (pc + 1) = .ok (.ifCond .eq off, 3)) (ht : ((pc + 1 : Nat) : Int) + off = (tgt : Int)) (kt : x = y → W p l e R s m args below meth c H locs cells slots Q (F0 m tgt ls rest)) (kf : ¬ x = y → W p l e R s m args below meth c H locs cells slots Q (F0 m (pc + 1 + 3) ls rest)) : W p l e R s m args below meth c H locs cells slots Q (F0 m pc ls (.long y :: .long x :: rest)) :=
  W.lcmp hx hb d1 (lv_if_eq hx hb d2 ht (fun q => kt ((lg_cmp_eq x y).mp q)) (fun q => kf (fun z => q ((lg_cmp_eq x y).mpr z))))
theorem m_lcmp_ne (hx : p.tables.exec = Jvm.exec) (hb : c.code = cc) {x y : Int64} {off : Int} {tgt : Nat} (d1 : decode cc pc = .ok (.lcmp, 1)) (d2 : decode cc (pc + 1) = .ok (.ifCond .ne off, 3)) (ht : ((pc + 1 : Nat) : Int) + off = (tgt : Int)) (kt : ¬ x = y → W p l e R s m args below meth c H locs cells slots Q (F0 m tgt ls rest)) (kf : x = y → W p l e R s m args below meth c H locs cells slots Q (F0 m (pc + 1 + 3) ls rest)) : W p l e R s m args below meth c H locs cells slots Q (F0 m pc ls (.long y :: .long x :: rest)) :=
  W.lcmp hx hb d1 (lv_if_ne hx hb d2 ht (fun q => kt (fun z => q ((lg_cmp_eq x y).mpr z))) (fun q => kf ((lg_cmp_eq x y).mp q)))
variable {D : va_G} {A : Nat → Prop} {a : Nat} {tys : List (ClassId × FieldType)} {H0 : Heap} {h : mH}
theorem m_newq (hexec : p.tables.exec = Jvm.exec) (hb : c.code = cc) {own C : String} {index : Nat} (hown : s.vm.findClass own = some m.cls) (hclink : (Cond.classLink own index C).before args s = true) (hover : va_AO C s) (hK : va_K D vwCl tys s) (hV : mV D h A H) (hS : va_S A H0 H locs) (hA : ∀ q, H0.size ≤ q → A q) (t0 : Nat) {cO : ClassId} (ht : tys[t0]? = some (cO, .object C))
    {n : Int32} {N' : Nat} (hn : ¬ n < 0) (hN : n.toNatClampNeg = N') (hbytes : N' * 4 ≤ 536870912) (hcells : cells + 1 ≤ R.cells) (hslots : slots + N' ≤ R.slots) (hdg : decode cc pc = .ok (.anewarray index, 3))
    (kk : ∀ (q : Nat) (H1 : Heap), h q = none → mV D (mu h q (.inl (cO, N', .inr (.inr (.inr (.inr (fun _ => none))))))) A H1 → va_S A H0 H1 locs →
      W p l e R s m args below meth c H1 locs (cells + 1) (slots + N') Q (F0 m (pc + 3) ls (.ref q :: rest))) : W p l e R s m args below meth c H locs cells slots Q (F0 m pc ls (.int n :: rest)) := by
  obtain ⟨ws, hP, hD, hh⟩ := hV
  refine va_newq hexec hb hown hclink hover hK hP hD hS hA hn hN hbytes hcells hslots hdg (fun q cA H1 hK1 hP1 hD1 hS1 => ?_)
  have e1 : cA = cO := by
    obtain ⟨_, _, _, _, _, h4⟩ := (hK1.2 tys.length (cA, .object C) (by simp)).2
    obtain ⟨_, _, _, _, _, h5⟩ := (hK.2 t0 _ ht).2
    exact Option.some.inj (h4.symm.trans h5)
  subst e1
  obtain ⟨h0, h1⟩ := m_view_new hD1 hh
  exact kk q H1 h0 ⟨_, hP1, hD1, h1⟩ hS1
theorem m_newp (hexec : p.tables.exec = Jvm.exec) (hb : c.code = cc) {atype : ArrayType} (harr : (Cond.arrayClass (newarray.typeOf atype)).before args s = true) {ty : FieldType} (hty : newarray.typeOf atype = ty) (hpr : ∀ C, ty ≠ .object C) (hK : va_K D vwCl tys s) (hV : mV D h A H) (hS : va_S A H0 H locs) (hA : ∀ q, H0.size ≤ q → A q) (t0 : Nat) {cO : ClassId} (ht : tys[t0]? = some (cO, ty))
    {n : Int32} {N' : Nat} {a0 : vp_A} (ha : ∀ cA : ClassId, vp_cell cA a0 = arrV cA N' (fun _ => defaultValue ty)) (hn : ¬ n < 0) (hN : n.toNatClampNeg = N') (hbytes : N' * componentBytes ty ≤ 536870912) (hcells : cells + 1 ≤ R.cells) (hslots : slots + N' ≤ R.slots) (hdg : decode cc pc = .ok (.newarray atype, 2))
    (kk : ∀ (q : Nat) (H1 : Heap), h q = none → mV D (mu h q (.inl (cO, a0))) A H1 → va_S A H0 H1 locs →
      W p l e R s m args below meth c H1 locs (cells + 1) (slots + N') Q (F0 m (pc + 2) ls (.ref q :: rest))) : W p l e R s m args below meth c H locs cells slots Q (F0 m pc ls (.int n :: rest)) := by
  obtain ⟨ws, hP, hD, hh⟩ := hV
  refine va_newa hexec hb harr hty hK hP hD hS hA ha hn hN hbytes hcells hslots hdg (fun q cA H1 hK1 hP1 hD1 hS1 => ?_)
  have e1 : cA = cO := by
    have h4 := (hK1.2 tys.length (cA, ty) (by simp)).2
    have h5 := (hK.2 t0 _ ht).2
    cases ty with
    | object C => exact absurd rfl (hpr C)
    | _ => exact Option.some.inj (h4.symm.trans h5)
  subst e1
  obtain ⟨h0, h1⟩ := m_view_new hD1 hh
  exact kk q H1 h0 ⟨_, hP1, hD1, h1⟩ hS1
theorem m_copy (hexec : p.tables.exec = Jvm.exec) (hb : c.code = cc) (hml : c.maxLocals = ls.size) {own : String} {index : Nat} (hown : s.vm.findClass own = some m.cls) (hlink : (Cond.methodLink own index arraycopyName).before args s = true) (hnat : (Cond.native arraycopyName).before args s = true) (hstat : (Cond.static arraycopyName).before args s = true) (hini : (Cond.initialized "java/lang/System").before args s = true)
    (hK : va_K D vwCl tys s) (hV : mV D h A H) (hS : va_S A H0 H locs) (t0 : Nat) {a0 : Nat} {cO : ClassId} {n0 n1 : Nat} {f g : Nat → Option Nat} {E : String} (he0 : h a0 = some (.inl (cO, n0, .inr (.inr (.inr (.inr f)))))) (he1 : h a = some (.inl (cO, n1, .inr (.inr (.inr (.inr g)))))) (ht : tys[t0]? = some (cO, .object E))
    {sp dp n : Int32} (h1 : ¬ sp < 0) (h2 : ¬ dp < 0) (h3 : ¬ n < 0) (h4 : sp.toNatClampNeg + n.toNatClampNeg ≤ n0) (h5 : dp.toNatClampNeg + n.toNatClampNeg ≤ n1) (hel : ∀ i : Nat, i < n.toNatClampNeg → ∀ y : Nat, f (sp.toNatClampNeg + i) = some y → va_Any E s H y)
    (hframes : 1 ≤ R.frames) (hlocals : (rest.map fun v => v.category).sum + (nativeFrameWords "java/lang/System" "arraycopy" 5 + 11) ≤ R.locals) (hdg : decode cc pc = .ok (.invokestatic index, 3))
    (kk : ∀ (H1 : Heap) (locs1 : List Loc), mV D (mu h a (.inl (cO, n1, .inr (.inr (.inr (.inr (va_cpy f g sp.toNatClampNeg dp.toNatClampNeg n.toNatClampNeg))))))) A H1 → va_S A H0 H1 locs1 → W p l e R s m args below meth c H1 locs1 cells slots Q (F0 m (pc + 3) ls rest)) :
    W p l e R s m args below meth c H locs cells slots Q (F0 m pc ls (.int n :: .int dp :: .ref a :: .int sp :: .ref a0 :: rest)) := by
  obtain ⟨ws, hP, hD, hh⟩ := hV
  obtain ⟨j0, hj0⟩ := List.getElem?_of_mem ((hh _ _).mp he0)
  obtain ⟨j1, hj1⟩ := List.getElem?_of_mem ((hh _ _).mp he1)
  exact va_copyM hexec hb hml hown hlink hnat hstat hini hK hP hD hS j0 j1 t0 t0 hj0 hj1 ht ht h1 h2 h3 h4 h5 hel hframes hlocals hdg (fun H1 locs1 hP1 hD1 hS1 => kk H1 locs1 ⟨_, hP1, hD1, m_view_set hD hh hj1⟩ hS1)
/-- an object that a list of ours may hold -/
def isEl (h : mH) (y : Nat) : Prop := ∃ (ci : Nat) (fs : List Value) (r : vw_C), h y = some (.inr (ci, fs)) ∧ vwCl[ci]? = some r ∧ r.1 ∈ nwO
theorem m_any {cs : mC} {df : Nat} {y : Nat} {B : Nat → Prop} (hE : mE D cs df B s) (hV : mV D h A H) (hy : isEl h y) : va_Any "java/lang/Object" s H y := by
  obtain ⟨ci, fs, r, he, hc, hr⟩ := hy
  refine va_rAny hE.1.1 (hV.one he) (q0 := 0) rfl hc (fun comp c0 g1 g2 => ?_)
  obtain ⟨c3, c4, hc3, hc4, hasg⟩ := Cond.castable_spec (va_Nw.use (A := #[]) rfl (hE.1.2.2.2.2.1 r.1 hr))
  cases Option.some.inj (hc3.symm.trans g2)
  cases Option.some.inj (hc4.symm.trans g1)
  exact hasg
theorem m_cast {cs : mC} {df : Nat} {B : Nat → Prop} {r : vw_C} {ci : Nat} {fs : List Value} {b : Nat} (hexec : p.tables.exec = Jvm.exec) (hb : c.code = cc) (hE : mE D cs df B s) (hV : mV D h A H) (he : h b = some (.inr (ci, fs))) (hc : vwCl[ci]? = some r) {own : String} {index : Nat} (hown : s.vm.findClass own = some m.cls) (hlink : (Cond.classLink own index r.1).before args s = true) (hdg : decode cc pc = .ok (.checkcast index, 3))
    (k : W p l e R s m args below meth c H locs cells slots Q (F0 m (pc + 3) ls (.ref b :: rest))) : W p l e R s m args below meth c H locs cells slots Q (F0 m pc ls (.ref b :: rest)) :=
  va_castS hexec hb hown hlink (hE.1.1.1 ci r hc).2 (m_recv hE hV he hc) hdg k
theorem m_fresh {q b : Nat} {e1 : va_E} (hq : h q = none) (hb : h b = some e1) : b ≠ q := fun z => by
  rw [z, hq] at hb
  cases hb
theorem m_recvA {cs : mC} {df : Nat} {B : Nat → Prop} {b n : Nat} {x : (Nat → Int32) ⊕ (Nat → Int64) ⊕ (Nat → UInt32) ⊕ (Nat → UInt64) ⊕ (Nat → Option Nat)} (hE : mE D cs df B s) (hV : mV D h A H) (he : h b = some (.inl (cs.2.2.2.2.1, n, x))) : ∃ cell : Cell, H[b]? = some cell ∧ cell.vm.isStatics = false ∧ s.vm.findClass "[Ljava/lang/Object;" = some cell.cls := by
  have h1 := (hV.get he).1
  refine ⟨_, h1, ?_, ?_⟩
  · rcases x with x | x | x | x | x <;> rfl
  · have h2 := va_nmO (nm := "[Ljava/lang/Object;") (hE.1.1.2 4 _ rfl).2 (by decide +kernel)
    rw [h2]
    rcases x with x | x | x | x | x <;> rfl
theorem m_mm {h : mH} {a : Nat} {x y : va_E} : mu (mu h a x) a y = mu h a y := by
  funext q
  by_cases z : q = a
  · subst z
    rw [mu_s, mu_s]
  · rw [mu_n z, mu_n z, mu_n z]
theorem m_sw {h : mH} {a b : Nat} {x y : va_E} (n : a ≠ b) : mu (mu h a x) b y = mu (mu h b y) a x := by
  funext q
  by_cases z : q = a
  · subst z
    rw [mu_n n, mu_s, mu_s]
  · by_cases w : q = b
    · subst w
      rw [mu_s, mu_n z, mu_s]
    · rw [mu_n w, mu_n z, mu_n z, mu_n w]
theorem isEl_new {h : mH} {q y : Nat} {e : va_E} (hq : h q = none) (hy : isEl h y) : isEl (mu h q e) y := by
  obtain ⟨ci, fs, r, he, hc, hr⟩ := hy
  exact ⟨ci, fs, r, (mu_n (m_fresh hq he)).trans he, hc, hr⟩
theorem isEl_set {h : mH} {q y ci : Nat} {fs fs1 : List Value} (hq : h q = some (.inr (ci, fs))) (hy : isEl h y) : isEl (mu h q (.inr (ci, fs1))) y := by
  obtain ⟨c0, f0, r, he, hc, hr⟩ := hy
  by_cases z : y = q
  · subst z
    cases hq.symm.trans he
    exact ⟨ci, fs1, r, mu_s _ _ _, hc, hr⟩
  · exact ⟨c0, f0, r, (mu_n z).trans he, hc, hr⟩
theorem isEl_arr {h : mH} {q y : Nat} {c n : Nat} {x : (Nat → Int32) ⊕ (Nat → Int64) ⊕ (Nat → UInt32) ⊕ (Nat → UInt64) ⊕ (Nat → Option Nat)} {e : va_E} (hq : h q = some (.inl (c, n, x))) (hy : isEl h y) : isEl (mu h q e) y := by
  obtain ⟨c0, f0, r, he, hc, hr⟩ := hy
  have z : y ≠ q := fun z => by
    subst z
    cases hq.symm.trans he
  exact ⟨c0, f0, r, (mu_n z).trans he, hc, hr⟩
theorem m_dif {h : mH} {a b : Nat} {x y : va_E} (ha : h a = some x) (hb : h b = some y) (n : x ≠ y) : a ≠ b := fun z => by
  subst z
  exact n (Option.some.inj (ha.symm.trans hb))
theorem m_none {h : mH} {a q : Nat} {e : va_E} (hq : mu h a e q = none) : h q = none := by
  by_cases z : q = a
  · subst z
    rw [mu_s] at hq
    cases hq
  · rw [mu_n z] at hq
    exact hq
theorem nI_shr : ∀ n, n < 201 → nI n >>> (1 &&& 31) = nI (n / 2) := by decide +kernel
theorem nI_max {x y : Nat} (hx : x < 2 ^ 31) (hy : y < 2 ^ 31) : (if nI x < nI y then nI y else nI x) = nI (if x < y then y else x) := by
  by_cases q : x < y
  · rw [if_pos q, if_pos ((nI_ltI hx hy).mpr q)]
  · rw [if_neg q, if_neg (fun z => q ((nI_ltI hx hy).mp z))]
theorem nI_min {x y : Nat} (hx : x < 2 ^ 31) (hy : y < 2 ^ 31) : (if nI y < nI x then nI y else nI x) = nI (if y < x then y else x) := by
  by_cases q : y < x
  · rw [if_pos q, if_pos ((nI_ltI hy hx).mpr q)]
  · rw [if_neg q, if_neg (fun z => q ((nI_ltI hy hx).mp z))]
end MR
