/-! THE LAW'S START: what the tables and the statement give of it -/
set_option maxHeartbeats 4000000 in
set_option maxRecDepth 100000 in
theorem law_cls {s : State} {args : Array Value} (hts : ∀ w ∈ lw_tbl, w.before args s = true) : ∃ D : va_G, ∀ (k : Nat) (q : vw_C), vwCl[k]? = some q → u_Kn s q.1 q.2.1 q.2.2 (D.1 k) (D.2 k) := by
  obtain ⟨c0, i0, k0⟩ := u_known (C := RJ0) (T := TJ0) (N := 2) (n := 4) hts inJ0 (hts (.instantiable RJ0 4) (by decide +kernel))
  obtain ⟨c1, i1, k1⟩ := u_known (C := RJx00060) (T := TJx00060) (N := 6) (n := 6) hts inJx00060 (hts (.instantiable RJx00060 6) (by decide +kernel))
  obtain ⟨c2, i2, k2⟩ := u_known (C := RJx4a65c) (T := TJx4a65c) (N := 3) (n := 3) hts inJx4a65c (hts (.instantiable RJx4a65c 3) (by decide +kernel))
  obtain ⟨c3, i3, k3⟩ := u_known (C := RX0) (T := TX0) (N := 3) (n := 3) hts inX0 (hts (.instantiable RX0 3) (by decide +kernel))
  obtain ⟨c4, i4, k4⟩ := u_known (C := RX1) (T := TX1) (N := 6) (n := 6) hts inX1 (hts (.instantiable RX1 6) (by decide +kernel))
  obtain ⟨c5, i5, k5⟩ := u_known (C := RX2) (T := TX2) (N := 2) (n := 2) hts inX2 (hts (.instantiable RX2 2) (by decide +kernel))
  obtain ⟨c6, i6, k6⟩ := u_known (C := RX3) (T := TX3) (N := 16) (n := 16) hts inX3 (hts (.instantiable RX3 16) (by decide +kernel))
  obtain ⟨c7, i7, k7⟩ := u_known (C := RX4) (T := TX4) (N := 11) (n := 11) hts inX4 (hts (.instantiable RX4 11) (by decide +kernel))
  obtain ⟨c8, i8, k8⟩ := u_known (C := RX5) (T := TX5) (N := 34) (n := 34) hts inX5 (hts (.instantiable RX5 34) (by decide +kernel))
  refine ⟨(fun k => if k = 0 then c0 else if k = 1 then c1 else if k = 2 then c2 else if k = 3 then c3 else if k = 4 then c4 else if k = 5 then c5 else if k = 6 then c6 else if k = 7 then c7 else c8, fun k => if k = 0 then i0 else if k = 1 then i1 else if k = 2 then i2 else if k = 3 then i3 else if k = 4 then i4 else if k = 5 then i5 else if k = 6 then i6 else if k = 7 then i7 else i8), ?_⟩
  intro k q hq
  match k, hq with
  | 0, hq => cases hq; exact k0
  | 1, hq => cases hq; exact k1
  | 2, hq => cases hq; exact k2
  | 3, hq => cases hq; exact k3
  | 4, hq => cases hq; exact k4
  | 5, hq => cases hq; exact k5
  | 6, hq => cases hq; exact k6
  | 7, hq => cases hq; exact k7
  | 8, hq => cases hq; exact k8
  | k + 9, hq => exact absurd hq (by simp [vwCl])
theorem law_arr {s : State} {args : Array Value} {ty : FieldType} (hpr : ∀ C, ty ≠ .object C) (h : (Cond.arrayClass ty).before args s = true) : ∃ cA : ClassId, ArrOfT s cA ty ∧ va_RA s cA ty := by
  obtain ⟨cA, kA, comp, h1, h2, h3⟩ := Cond.arrayClass_spec h
  refine ⟨cA, fun n z => ⟨fun k h => (by cases h), kA, h2, comp, h3⟩, ?_⟩
  cases ty with
  | object C => exact absurd rfl (hpr C)
  | _ => exact h1
theorem law_arrO {s : State} {args : Array Value} {C : String} (h : (Cond.arrayOver (.object C)).before args s = true) : ∃ cA : ClassId, ArrOfT s cA (.object C) ∧ va_RA s cA (.object C) := by
  obtain ⟨comp, cA, kA, h1, h2, h3, h4, h5⟩ := Cond.arrayOver_spec h
  exact ⟨cA, fun n z => ⟨fun k h => (by cases h), kA, h3, comp, h4⟩, kA, comp, h3, h4, h1, h5⟩
theorem law_i1 : ∀ q ∈ nwF, Cond.fieldLinkNest q.1 q.2.1 q.2.2.1 q.2.2.2.1 q.2.2.2.2.1 q.2.2.2.2.2 ∈ lw_tbl := by decide +kernel
theorem law_i2 : ∀ q ∈ nwM, Cond.methodLinkNest "TaskKernel" q.1 q.2 "TaskKernel" ∈ lw_tbl := by decide +kernel
theorem law_i3 : ∀ q ∈ nwS, Cond.stringRef "TaskKernel" q.1 q.2 ∈ lw_tbl := by decide +kernel
theorem law_i4 : ∀ C ∈ nwO, Cond.castable C "java/lang/Object" ∈ lw_tbl := by decide +kernel
theorem law_i5 : ∀ w ∈ nwE, w ∈ lw_tbl := by decide +kernel
theorem law_g1 : ∀ q ∈ nwS, Cond.exactly (.string "TaskKernel" q.1) "java/lang/String" ∈ flatC (Jvm.Cond.and given_1 narrow_1) := by decide +kernel
theorem law_g2 : ∀ q ∈ nwC, Cond.not (.castable q.1 q.2) ∈ flatC (Jvm.Cond.and given_1 narrow_1) := by decide +kernel
set_option maxHeartbeats 4000000 in
set_option maxRecDepth 100000 in
theorem law_env {s : State} {args : Array Value} (hts : ∀ w ∈ lw_tbl, w.before args s = true) (hgv : (Jvm.Cond.and given_1 narrow_1).before args s = true) : ∃ (D : va_G) (cs : mC) (df : Nat), mE D cs df (fun q => s.heap.size ≤ q) s ∧ mN s := by
  have hg := flat_of_before _ hgv
  have hA : ∀ a : Nat, a < s.heap.size → ¬ (fun q : Nat => s.heap.size ≤ q) a := fun a h => Nat.not_le.mpr h
  obtain ⟨D, hD⟩ := law_cls hts
  obtain ⟨a1, q1⟩ := law_arr (ty := .int) nofun (hts (.arrayClass .int) (by decide +kernel))
  obtain ⟨a2, q2⟩ := law_arr (ty := .long) nofun (hts (.arrayClass .long) (by decide +kernel))
  obtain ⟨a3, q3⟩ := law_arr (ty := .boolean) nofun (hts (.arrayClass .boolean) (by decide +kernel))
  obtain ⟨a4, q4⟩ := law_arr (ty := .double) nofun (hts (.arrayClass .double) (by decide +kernel))
  have hAO := hts (.arrayOver (.object "java/lang/Object")) (by decide +kernel)
  obtain ⟨a5, q5⟩ := law_arrO hAO
  obtain ⟨mi, hmi⟩ := va_Mi.of (C := "[Ljava/lang/Object;") (hg (.isRef (.mirror "[Ljava/lang/Object;")) (by decide +kernel))
  have hdf := hg (.arrayOf (.static "java/util/ArrayList" "DEFAULTCAPACITY_EMPTY_ELEMENTDATA" "[Ljava/lang/Object;") (.object "java/lang/Object")) (by decide +kernel)
  have hdl := hg (.eq (.length (.static "java/util/ArrayList" "DEFAULTCAPACITY_EMPTY_ELEMENTDATA" "[Ljava/lang/Object;")) (.int 0)) (by decide +kernel)
  obtain ⟨df, hde, hT⟩ := va_Tof (N := 0) (f := fun _ => .null) (A := fun q => s.heap.size ≤ q) (by decide) hdf (Cond.eq_int hdl rfl) (fun j hj => absurd hj (Nat.not_lt_zero j)) hA
  refine ⟨D, (a1, a2, a3, a4, a5, mi), df, ⟨⟨⟨hD, ?_⟩, fun q hq => va_Nw.of rfl (hts _ (law_i1 q hq)), fun q hq => va_Nw.of rfl (hts _ (law_i2 q hq)), fun q hq => ?_, fun C hC => va_Nw.of rfl (hts _ (law_i4 C hC)), hmi, va_Dc.of (hts (.declares ⟨"java/lang/Object", "getClass", "()Ljava/lang/Class;"⟩) (by decide +kernel)), ?_, fun w hw => va_Nw.of (nwE_tab w hw) (hts w (law_i5 w hw))⟩, ?_, ?_, ?_, hT⟩, fun q hq => va_Nc.of (hg _ (law_g2 q hq))⟩
  · intro k q hq
    match k, hq with
    | 0, hq => cases hq; exact q1
    | 1, hq => cases hq; exact q2
    | 2, hq => cases hq; exact q3
    | 3, hq => cases hq; exact q4
    | 4, hq => cases hq; exact q5
    | k + 5, hq => exact absurd hq (by simp [mT])
  · obtain ⟨a, c, cell, k, h1, -⟩ := Cond.exactly_spec (hg _ (law_g1 q hq))
    exact ⟨a, vk_R.of (hts _ (law_i3 q hq)) h1⟩
  · obtain ⟨comp, cA, kA, h1, h2, h3, h4, h5⟩ := Cond.arrayOver_spec hAO
    exact va_AO.of hAO
  · exact vx_Zqof (hts (.laysStatic Bundle.tN "UNASSIGNED_STACK" Bundle.steD) (by decide +kernel)) (hts (.initialized Bundle.tN) (by decide +kernel)) (hg (.isRef (.static Bundle.tN "UNASSIGNED_STACK" Bundle.steD)) (by decide +kernel)) hA
  · exact vx_Zqof (hts (.laysStatic Bundle.tN "SUPPRESSED_SENTINEL" Bundle.listD) (by decide +kernel)) (hts (.initialized Bundle.tN) (by decide +kernel)) (hg (.isRef (.static Bundle.tN "SUPPRESSED_SENTINEL" Bundle.listD)) (by decide +kernel)) hA
  · exact va_Zof (hts (.laysStatic "java/util/ArrayList" "DEFAULTCAPACITY_EMPTY_ELEMENTDATA" "[Ljava/lang/Object;") (by decide +kernel)) (hts (.initialized "java/util/ArrayList") (by decide +kernel)) hde hA
