theorem oI_m1 {o : Option Nat} (h : ∀ k, o = some k → k < 2 ^ 31) : oI o = -1 ↔ o = none := by
  cases o with
  | none => exact ⟨fun _ => rfl, fun _ => rfl⟩
  | some k =>
    refine ⟨fun e => ?_, fun e => nomatch e⟩
    have hk := h k rfl
    have h1 : (nI k).toInt = (-1 : Int32).toInt := congrArg Int32.toInt (show nI k = -1 from e)
    rw [nI_toInt hk] at h1
    have h2 : (-1 : Int32).toInt = -1 := by decide
    omega
theorem oI_n {o : Option Nat} {t : Nat} (h : ∀ k, o = some k → k < 2 ^ 31) (ht : t < 2 ^ 31) : oI o = nI t ↔ o = some t := by
  cases o with
  | none =>
    refine ⟨fun e => ?_, fun e => nomatch e⟩
    have h1 : (-1 : Int32).toInt = (nI t).toInt := congrArg Int32.toInt (show -1 = nI t from e)
    rw [nI_toInt ht] at h1
    have h2 : (-1 : Int32).toInt = -1 := by decide
    omega
  | some k =>
    have hk := h k rfl
    refine ⟨fun e => ?_, fun e => ?_⟩
    · exact congrArg some ((nI_eq hk ht).mp e)
    · cases e; rfl
theorem bI_0 {b : Bool} : bI b = 0 ↔ b = false := by cases b <;> decide
theorem bI_1 {b : Bool} : ¬ bI b = 0 ↔ b = true := by cases b <;> decide
theorem inR_some {x : Int32} {n t : Nat} (h : inR x n = some t) : x = nI t ∧ t < n := by
  unfold inR at h
  split at h
  · rename_i hx
    cases h
    refine ⟨?_, by omega⟩
    apply Int32.toInt_inj.mp
    have h2 : x.toInt < 2 ^ 31 := Int32.toInt_lt x
    rw [nI_toInt (by omega)]
    omega
  · cases h
theorem inR_none {x : Int32} {n : Nat} (h : inR x n = none) : x.toInt < 0 ∨ (n : Int) ≤ x.toInt := by
  unfold inR at h
  split at h
  · cases h
  · omega
theorem inR_nI {n t : Nat} (ht : t < n) (hn : n < 2 ^ 31) : inR (nI t) n = some t := by
  unfold inR
  rw [nI_toInt (by omega), if_pos (by omega)]
  simp
theorem inR_lt0 {x : Int32} {n : Nat} (h : x < 0) : inR x n = none := by
  unfold inR
  have : x.toInt < 0 := by simpa using Int32.lt_iff_toInt_lt.mp h
  rw [if_neg (by omega)]
theorem inR_ge {x : Int32} {n : Nat} (hn : n < 2 ^ 31) (h : nI n ≤ x) : inR x n = none := by
  unfold inR
  have h1 := Int32.le_iff_toInt_le.mp h
  rw [nI_toInt hn] at h1
  rw [if_neg (by omega)]
theorem inR_mid {x : Int32} {n : Nat} (hn : n < 2 ^ 31) (h0 : ¬ x < 0) (h : ¬ nI n ≤ x) : ∃ t, inR x n = some t ∧ x = nI t ∧ t < n := by
  cases hx : inR x n with
  | some t => exact ⟨t, rfl, inR_some hx⟩
  | none =>
    exfalso
    rcases inR_none hx with q | q
    · exact h0 (Int32.lt_iff_toInt_lt.mpr (by simpa using q))
    · exact h (Int32.le_iff_toInt_le.mpr (by rw [nI_toInt hn]; exact q))
theorem rf_cat (r : Option Nat) : (va_rf r).category = 1 := by cases r <;> rfl
theorem map_inj {f : Nat → Nat} {o : Option Nat} {t : Nat} (h : ∀ k, o = some k → f k = f t → k = t) : o.map f = some (f t) ↔ o = some t := by
  cases o with
  | none => simp
  | some k =>
    refine ⟨fun e => ?_, fun e => by cases e; rfl⟩
    exact congrArg some (h k rfl (Option.some.inj e))
section MR
variable {p : Program} {l : Launch} {e : Env} {R : Room} {s : State} {m : MethodId} {args : Array Value} {below : List Frame} {meth : Method} {c : Code} {H : Heap} {locs : List Loc} {cells slots : Nat} {Q : State → Prop}
variable {cc : ByteArray} {pc : Nat} {ls : Array Slot} {rest : List Value}
theorem m_top {x y : Value} (h : x = y) (k : W p l e R s m args below meth c H locs cells slots Q (F0 m pc ls (y :: rest))) : W p l e R s m args below meth c H locs cells slots Q (F0 m pc ls (x :: rest)) := by subst h; exact k
theorem m_topi {x y : Int32} (h : x = y) (k : W p l e R s m args below meth c H locs cells slots Q (F0 m pc ls (.int y :: rest))) : W p l e R s m args below meth c H locs cells slots Q (F0 m pc ls (.int x :: rest)) := by subst h; exact k
theorem m_topl {x y : Int64} (h : x = y) (k : W p l e R s m args below meth c H locs cells slots Q (F0 m pc ls (.long y :: rest))) : W p l e R s m args below meth c H locs cells slots Q (F0 m pc ls (.long x :: rest)) := by subst h; exact k
theorem m_ifnull_q (hx : p.tables.exec = Jvm.exec) (hb : c.code = cc) {o : Option Nat} {f : Nat → Nat} {off : Int} {tgt : Nat} (hdg : decode cc pc = .ok (.ifnull off, 3)) (ht : (pc : Int) + off = (tgt : Int)) (kn : o = none → W p l e R s m args below meth c H locs cells slots Q (F0 m tgt ls rest)) (ks : ∀ k, o = some k → W p l e R s m args below meth c H locs cells slots Q (F0 m (pc + 3) ls rest)) : W p l e R s m args below meth c H locs cells slots Q (F0 m pc ls (va_rf (o.map f) :: rest)) := by
  cases ho : o with
  | none => exact lv_ifnullN hx hb hdg ht (kn ho)
  | some k => exact lv_ifnull hx hb hdg (ks k ho)
theorem m_ifnonnull_q (hx : p.tables.exec = Jvm.exec) (hb : c.code = cc) {o : Option Nat} {f : Nat → Nat} {off : Int} {tgt : Nat} (hdg : decode cc pc = .ok (.ifnonnull off, 3)) (ht : (pc : Int) + off = (tgt : Int)) (ks : ∀ k, o = some k → W p l e R s m args below meth c H locs cells slots Q (F0 m tgt ls rest)) (kn : o = none → W p l e R s m args below meth c H locs cells slots Q (F0 m (pc + 3) ls rest)) : W p l e R s m args below meth c H locs cells slots Q (F0 m pc ls (va_rf (o.map f) :: rest)) := by
  cases ho : o with
  | none => exact lv_ifnonnullN hx hb hdg (kn ho)
  | some k => exact lv_ifnonnull hx hb hdg ht (ks k ho)
theorem m_aload_nq (hx : p.tables.exec = Jvm.exec) (hb : c.code = cc) {k : Fin 4} {i : Nat} {r : Option Nat} (hdg : decode cc pc = .ok (.aload_n k, 1)) (hi : (k : Nat) = i) (hl : ls[i]? = some (.val (va_rf r))) (kk : W p l e R s m args below meth c H locs cells slots Q (F0 m (pc + 1) ls (va_rf r :: rest))) : W p l e R s m args below meth c H locs cells slots Q (F0 m pc ls rest) := by
  cases r with
  | none => exact lv_aload_nN hx hb hdg hi hl kk
  | some a => exact lv_aload_n hx hb hdg hi hl kk
theorem m_aload_q (hx : p.tables.exec = Jvm.exec) (hb : c.code = cc) {i : Nat} {r : Option Nat} (hdg : decode cc pc = .ok (.aload i, 2)) (hl : ls[i]? = some (.val (va_rf r))) (kk : W p l e R s m args below meth c H locs cells slots Q (F0 m (pc + 2) ls (va_rf r :: rest))) : W p l e R s m args below meth c H locs cells slots Q (F0 m pc ls rest) := by
  cases r with
  | none => exact lv_aloadN hx hb hdg hl kk
  | some a => exact lv_aload hx hb hdg hl kk
theorem m_astore_nq (hx : p.tables.exec = Jvm.exec) (hb : c.code = cc) {k : Fin 4} {i nL : Nat} {r : Option Nat} {lv lv' : List (Nat × Value)} (hdg : decode cc pc = .ok (.astore_n k, 1)) (hi : (k : Nat) = i) (h : lv_has ls nL lv) (hn : i < nL) (hl : (i, va_rf r) :: lv.filter (fun q => !(q.1 == i) && !(q.1 + 1 == i && q.2.category == 2)) = lv') (kk : ∀ ls' : Array Slot, lv_has ls' nL lv' → W p l e R s m args below meth c H locs cells slots Q (F0 m (pc + 1) ls' rest)) : W p l e R s m args below meth c H locs cells slots Q (F0 m pc ls (va_rf r :: rest)) := by
  cases r with
  | none => exact lv_astore_nN hx hb hdg hi h hn hl kk
  | some a => exact lv_astore_n hx hb hdg hi h hn hl kk
theorem m_astore_q (hx : p.tables.exec = Jvm.exec) (hb : c.code = cc) {i nL : Nat} {r : Option Nat} {lv lv' : List (Nat × Value)} (hdg : decode cc pc = .ok (.astore i, 2)) (h : lv_has ls nL lv) (hn : i < nL) (hl : (i, va_rf r) :: lv.filter (fun q => !(q.1 == i) && !(q.1 + 1 == i && q.2.category == 2)) = lv') (kk : ∀ ls' : Array Slot, lv_has ls' nL lv' → W p l e R s m args below meth c H locs cells slots Q (F0 m (pc + 2) ls' rest)) : W p l e R s m args below meth c H locs cells slots Q (F0 m pc ls (va_rf r :: rest)) := by
  cases r with
  | none => exact lv_astoreN hx hb hdg h hn hl kk
  | some a => exact lv_astore hx hb hdg h hn hl kk
end MR
