/-! A heap seen as a map: what lies at which address. A world of the kit lies behind it. -/
abbrev mH : Type := Nat → Option va_E
def mu (h : mH) (a : Nat) (e : va_E) : mH := fun q => if q = a then some e else h q
theorem mu_s (h : mH) (a : Nat) (e : va_E) : mu h a e a = some e := if_pos rfl
theorem mu_n {h : mH} {a q : Nat} {e : va_E} (n : q ≠ a) : mu h a e q = h q := if_neg n
def mV (D : va_G) (h : mH) (A : Nat → Prop) (H : Heap) : Prop := ∃ ws : va_W, va_P D vwCl ws H ∧ va_D A ws ∧ ∀ (a : Nat) (e : va_E), h a = some e ↔ (a, e) ∈ ws
theorem mV.get {D : va_G} {h : mH} {A : Nat → Prop} {H : Heap} (hV : mV D h A H) {a : Nat} {e : va_E} (he : h a = some e) : va_at D vwCl (a, e) H ∧ A a ∧ a < H.size := by
  obtain ⟨ws, hP, hD, hh⟩ := hV
  obtain ⟨k, hk⟩ := List.getElem?_of_mem ((hh a e).mp he)
  exact ⟨hP k _ hk, hD.2 k _ hk, (hP k _ hk).lt⟩
theorem mV.kept {D : va_G} {h : mH} {A : Nat → Prop} {H H1 : Heap} (hV : mV D h A H) (hq : ∀ (a : Nat) (e : va_E), h a = some e → H1[a]? = H[a]?) : mV D h A H1 := by
  obtain ⟨ws, hP, hD, hh⟩ := hV
  exact ⟨ws, hP.kept (fun k q hk => hq q.1 q.2 ((hh _ _).mpr (List.mem_of_getElem? hk))), hD, hh⟩
theorem mV.to {D : va_G} {h : mH} {A B : Nat → Prop} {H : Heap} (hV : mV D h A H) (hq : ∀ (a : Nat) (e : va_E), h a = some e → A a → B a) : mV D h B H := by
  obtain ⟨ws, hP, hD, hh⟩ := hV
  exact ⟨ws, hP, hD.weaken (fun k q hk hA => hq q.1 q.2 ((hh _ _).mpr (List.mem_of_getElem? hk)) hA), hh⟩
theorem mV.nil {D : va_G} {A : Nat → Prop} {H : Heap} : mV D (fun _ => none) A H :=
  ⟨[], fun k q h => by simp at h, ⟨fun i j p q h => by simp at h, fun k q h => by simp at h⟩, fun a e => by simp⟩
theorem mV.one {D : va_G} {h : mH} {A : Nat → Prop} {H : Heap} (hV : mV D h A H) {a : Nat} {e : va_E} (he : h a = some e) : va_P D vwCl [(a, e)] H := by
  intro k q hk
  have hz : k < 1 := (List.getElem?_eq_some_iff.mp hk).1
  rw [show k = 0 by omega] at hk
  cases hk
  exact (hV.get he).1
theorem m_view_set {A : Nat → Prop} {h : mH} {ws : va_W} {k a : Nat} {e0 e1 : va_E} (hD : va_D A ws) (hh : ∀ (a : Nat) (e : va_E), h a = some e ↔ (a, e) ∈ ws) (hk : ws[k]? = some (a, e0)) : ∀ (b : Nat) (e : va_E), mu h a e1 b = some e ↔ (b, e) ∈ ws.set k (a, e1) := by
  intro b e
  have hl := (List.getElem?_eq_some_iff.mp hk).1
  by_cases hb : b = a
  · subst hb
    rw [mu_s]
    constructor
    · intro z
      cases z
      exact List.mem_of_getElem? (List.getElem?_set_self hl)
    · intro z
      obtain ⟨j, hj⟩ := List.getElem?_of_mem z
      by_cases hjk : j = k
      · subst hjk
        rw [List.getElem?_set_self hl] at hj
        cases hj
        rfl
      · rw [List.getElem?_set_ne (Ne.symm hjk)] at hj
        exact absurd (hD.1 j k _ _ hj hk rfl) hjk
  · rw [mu_n hb, hh]
    constructor
    · intro z
      obtain ⟨j, hj⟩ := List.getElem?_of_mem z
      have hjk : j ≠ k := fun q => by
        subst q
        rw [hk] at hj
        cases hj
        exact hb rfl
      exact List.mem_of_getElem? (i := j) (by rw [List.getElem?_set_ne (Ne.symm hjk)]; exact hj)
    · intro z
      obtain ⟨j, hj⟩ := List.getElem?_of_mem z
      by_cases hjk : j = k
      · subst hjk
        rw [List.getElem?_set_self hl] at hj
        cases hj
        exact absurd rfl hb
      · rw [List.getElem?_set_ne (Ne.symm hjk)] at hj
        exact List.mem_of_getElem? hj
theorem m_view_new {A : Nat → Prop} {h : mH} {ws : va_W} {a : Nat} {e1 : va_E} (hD : va_D A (ws ++ [(a, e1)])) (hh : ∀ (a : Nat) (e : va_E), h a = some e ↔ (a, e) ∈ ws) : h a = none ∧ ∀ (b : Nat) (e : va_E), mu h a e1 b = some e ↔ (b, e) ∈ ws ++ [(a, e1)] := by
  have hn : ∀ e, (a, e) ∉ ws := by
    intro e z
    obtain ⟨j, hj⟩ := List.getElem?_of_mem z
    have hl := (List.getElem?_eq_some_iff.mp hj).1
    have h1 : (ws ++ [(a, e1)])[j]? = some (a, e) := by rw [List.getElem?_append_left hl]; exact hj
    have h2 : (ws ++ [(a, e1)])[ws.length]? = some (a, e1) := by rw [List.getElem?_append_right (Nat.le_refl _), Nat.sub_self]; rfl
    have := hD.1 _ _ _ _ h1 h2 rfl
    omega
  have h0 : h a = none := by
    cases hz : h a with
    | none => rfl
    | some e => exact absurd ((hh a e).mp hz) (hn e)
  refine ⟨h0, fun b e => ?_⟩
  by_cases hb : b = a
  · subst hb
    rw [mu_s]
    constructor
    · intro z; cases z; simp
    · intro z
      rcases List.mem_append.mp z with z | z
      · exact absurd z (hn e)
      · cases List.mem_singleton.mp z; rfl
  · rw [mu_n hb, hh]
    constructor
    · intro z; exact List.mem_append_left _ z
    · intro z
      rcases List.mem_append.mp z with z | z
      · exact z
      · cases List.mem_singleton.mp z; exact absurd rfl hb
/-- a field of an object -/
def mFd (h : mH) (a ci k : Nat) (v : Value) : Prop := ∃ fs : List Value, h a = some (.inr (ci, fs)) ∧ fs[k]? = some v
/-- a field may be written, and what holds then -/
def mFp (h : mH) (a ci k : Nat) (v : Value) (Rp : mH → Prop) : Prop := ∃ fs : List Value, h a = some (.inr (ci, fs)) ∧ k < fs.length ∧ Rp (mu h a (.inr (ci, fs.set k v)))
section MK
variable {p : Program} {l : Launch} {e : Env} {R : Room} {s : State} {m : MethodId} {args : Array Value} {below : List Frame} {meth : Method} {c : Code} {H : Heap} {locs : List Loc} {cells slots : Nat} {Q : State → Prop}
variable {cc : ByteArray} {pc : Nat} {ls : Array Slot} {rest : List Value} {D : va_G} {A : Nat → Prop} {a : Nat} {tys : List (ClassId × FieldType)} {H0 : Heap} {h : mH} {Rp : mH → Prop}
theorem m_get (hexec : p.tables.exec = Jvm.exec) (hb : c.code = cc) {own ref C : String} {T : u_T} {N ci index : Nat} {Ts : List Cond} (hts : ∀ w ∈ Ts, w.before args s = true) (hin : ∀ w ∈ u_ws C T N, w ∈ Ts) (hown : s.vm.findClass own = some m.cls) (hK : va_K D vwCl tys s) (hV : mV D h A H) (k : Nat) {v : Value} (hf : mFd h a ci k v) (hc : vwCl[ci]? = some (C, T, N)) (hk : k < N) (hlink : (Cond.fieldLink own index ref (T k).2.1 (T k).2.2.1).before args s = true) (hsame : ∀ x, s.fieldFound? (T k).1 (T k).2.1 (T k).2.2.1 = some x → s.fieldFound? ref (T k).2.1 (T k).2.2.1 = some x) (hdg : decode cc pc = .ok (.getfield index, 3))
    (kk : W p l e R s m args below meth c H locs cells slots Q (F0 m (pc + 3) ls (v :: rest))) : W p l e R s m args below meth c H locs cells slots Q (F0 m pc ls (.ref a :: rest)) := by
  obtain ⟨fs, he, hv⟩ := hf
  exact va_get hexec hb hts hin hown hK (hV.one he) 0 rfl hc k hk hlink hsame hv hdg kk
theorem m_getN (hexec : p.tables.exec = Jvm.exec) (hb : c.code = cc) {own ref C host : String} {T : u_T} {N ci index : Nat} {Ts : List Cond} (hts : ∀ w ∈ Ts, w.before args s = true) (hin : ∀ w ∈ u_ws C T N, w ∈ Ts) (hown : s.vm.findClass own = some m.cls) (hK : va_K D vwCl tys s) (hV : mV D h A H) (k : Nat) {v : Value} (hf : mFd h a ci k v) (hc : vwCl[ci]? = some (C, T, N)) (hk : k < N) (hlink : va_Nw (.fieldLinkNest own index ref (T k).2.1 (T k).2.2.1 host) s) (hsame : ∀ x, s.fieldFound? (T k).1 (T k).2.1 (T k).2.2.1 = some x → s.fieldFound? ref (T k).2.1 (T k).2.2.1 = some x) (hdg : decode cc pc = .ok (.getfield index, 3))
    (kk : W p l e R s m args below meth c H locs cells slots Q (F0 m (pc + 3) ls (v :: rest))) : W p l e R s m args below meth c H locs cells slots Q (F0 m pc ls (.ref a :: rest)) := by
  obtain ⟨fs, he, hv⟩ := hf
  exact va_getN hexec hb hts hin hown hK (hV.one he) 0 rfl hc k hk (va_Nw.use rfl hlink) hsame hv hdg kk
theorem m_put (hexec : p.tables.exec = Jvm.exec) (hb : c.code = cc) {own ref C : String} {T : u_T} {N ci index : Nat} {Ts : List Cond} (hts : ∀ w ∈ Ts, w.before args s = true) (hin : ∀ w ∈ u_ws C T N, w ∈ Ts) (ty0 : Nat → FieldType) (hty : ∀ k, k < N → parseFieldDescriptor (T k).2.2.1 = some (ty0 k)) (hnm : ∀ a, a < N → ∀ b, b < N → a ≠ b → (T a).2.1 ≠ (T b).2.1) (hown : s.vm.findClass own = some m.cls) (hK : va_K D vwCl tys s) (hV : mV D h A H) (hS0 : va_S A H0 H locs) (k : Nat) {v : Value} (hp : mFp h a ci k v Rp) (hc : vwCl[ci]? = some (C, T, N)) (hk : k < N) (hlink : (Cond.fieldLink own index ref (T k).2.1 (T k).2.2.1).before args s = true) (hsame : ∀ x, s.fieldFound? (T k).1 (T k).2.1 (T k).2.2.1 = some x → s.fieldFound? ref (T k).2.1 (T k).2.2.1 = some x) (hfin : (T k).2.2.2 = false) {ty : FieldType} (hd : parseFieldDescriptor (T k).2.2.1 = some ty) (hn : narrow ty v = v) (hfit : fits ty v = true)
    (hdg : decode cc pc = .ok (.putfield index, 3)) (kk : ∀ (h1 : mH) (H1 : Heap) (locs1 : List Loc), mV D h1 A H1 → va_S A H0 H1 locs1 → Rp h1 → W p l e R s m args below meth c H1 locs1 cells slots Q (F0 m (pc + 3) ls rest)) : W p l e R s m args below meth c H locs cells slots Q (F0 m pc ls (v :: .ref a :: rest)) := by
  obtain ⟨fs, he, hl, hR⟩ := hp
  obtain ⟨ws, hP, hD, hh⟩ := hV
  obtain ⟨j, hj⟩ := List.getElem?_of_mem ((hh _ _).mp he)
  exact va_put hexec hb hts hin ty0 hty hnm hown hK hP hD hS0 j hj hc k hk hlink hsame hfin hd hn hfit hl hdg (fun H1 locs1 hP1 hD1 hS1 => kk _ H1 locs1 ⟨_, hP1, hD1, m_view_set hD hh hj⟩ hS1 hR)
theorem m_putN (hexec : p.tables.exec = Jvm.exec) (hb : c.code = cc) {own ref C host : String} {T : u_T} {N ci index : Nat} {Ts : List Cond} (hts : ∀ w ∈ Ts, w.before args s = true) (hin : ∀ w ∈ u_ws C T N, w ∈ Ts) (ty0 : Nat → FieldType) (hty : ∀ k, k < N → parseFieldDescriptor (T k).2.2.1 = some (ty0 k)) (hnm : ∀ a, a < N → ∀ b, b < N → a ≠ b → (T a).2.1 ≠ (T b).2.1) (hown : s.vm.findClass own = some m.cls) (hK : va_K D vwCl tys s) (hV : mV D h A H) (hS0 : va_S A H0 H locs) (k : Nat) {v : Value} (hp : mFp h a ci k v Rp) (hc : vwCl[ci]? = some (C, T, N)) (hk : k < N) (hlink : va_Nw (.fieldLinkNest own index ref (T k).2.1 (T k).2.2.1 host) s) (hsame : ∀ x, s.fieldFound? (T k).1 (T k).2.1 (T k).2.2.1 = some x → s.fieldFound? ref (T k).2.1 (T k).2.2.1 = some x) (hfin : (T k).2.2.2 = false) {ty : FieldType} (hd : parseFieldDescriptor (T k).2.2.1 = some ty) (hn : narrow ty v = v) (hfit : fits ty v = true)
    (hdg : decode cc pc = .ok (.putfield index, 3)) (kk : ∀ (h1 : mH) (H1 : Heap) (locs1 : List Loc), mV D h1 A H1 → va_S A H0 H1 locs1 → Rp h1 → W p l e R s m args below meth c H1 locs1 cells slots Q (F0 m (pc + 3) ls rest)) : W p l e R s m args below meth c H locs cells slots Q (F0 m pc ls (v :: .ref a :: rest)) := by
  obtain ⟨fs, he, hl, hR⟩ := hp
  obtain ⟨ws, hP, hD, hh⟩ := hV
  obtain ⟨j, hj⟩ := List.getElem?_of_mem ((hh _ _).mp he)
  exact va_putN hexec hb hts hin ty0 hty hnm hown hK hP hD hS0 j hj hc k hk (va_Nw.use rfl hlink) hsame hfin hd hn hfit hl hdg (fun H1 locs1 hP1 hD1 hS1 => kk _ H1 locs1 ⟨_, hP1, hD1, m_view_set hD hh hj⟩ hS1 hR)
theorem m_putF (hexec : p.tables.exec = Jvm.exec) (hb : c.code = cc) {own ref C : String} {T : u_T} {N ci index : Nat} {Ts : List Cond} (hts : ∀ w ∈ Ts, w.before args s = true) (hin : ∀ w ∈ u_ws C T N, w ∈ Ts) (ty0 : Nat → FieldType) (hty : ∀ k, k < N → parseFieldDescriptor (T k).2.2.1 = some (ty0 k)) (hnm : ∀ a, a < N → ∀ b, b < N → a ≠ b → (T a).2.1 ≠ (T b).2.1) (hown : s.vm.findClass own = some m.cls) (hK : va_K D vwCl tys s) (hV : mV D h A H) (hS0 : va_S A H0 H locs) (k : Nat) {v : Value} (hp : mFp h a ci k v Rp) (hc : vwCl[ci]? = some (C, T, N)) (hk : k < N) (hlink : (Cond.fieldLink own index ref (T k).2.1 (T k).2.2.1).before args s = true) (hsame : ∀ x, s.fieldFound? (T k).1 (T k).2.1 (T k).2.2.1 = some x → s.fieldFound? ref (T k).2.1 (T k).2.2.1 = some x) (hfin : (T k).2.2.2 = true) (hin2 : meth.name = "<init>") (hdecl : (T k).1 = own) {ty : FieldType} (hd : parseFieldDescriptor (T k).2.2.1 = some ty) (hn : narrow ty v = v) (hfit : fits ty v = true)
    (hdg : decode cc pc = .ok (.putfield index, 3)) (kk : ∀ (h1 : mH) (H1 : Heap) (locs1 : List Loc), mV D h1 A H1 → va_S A H0 H1 locs1 → Rp h1 → W p l e R s m args below meth c H1 locs1 cells slots Q (F0 m (pc + 3) ls rest)) : W p l e R s m args below meth c H locs cells slots Q (F0 m pc ls (v :: .ref a :: rest)) := by
  obtain ⟨fs, he, hl, hR⟩ := hp
  obtain ⟨ws, hP, hD, hh⟩ := hV
  obtain ⟨j, hj⟩ := List.getElem?_of_mem ((hh _ _).mp he)
  exact va_putF hexec hb hts hin ty0 hty hnm hown hK hP hD hS0 j hj hc k hk hlink hsame hfin hin2 hdecl hd hn hfit hl hdg (fun H1 locs1 hP1 hD1 hS1 => kk _ H1 locs1 ⟨_, hP1, hD1, m_view_set hD hh hj⟩ hS1 hR)
theorem m_iald (hexec : p.tables.exec = Jvm.exec) (hb : c.code = cc) (hK : va_K D vwCl tys s) (hV : mV D h A H) (t0 : Nat) {cA : ClassId} {n : Nat} {f : Nat → Int32} (he : h a = some (.inl (cA, n, .inl f))) (ht : tys[t0]? = some (cA, .int)) {i : Int32} (hin : vp_in i n) {x : Int32} (hx : f i.toNatClampNeg = x) (hdg : decode cc pc = .ok (.iaload, 1))
    (kk : W p l e R s m args below meth c H locs cells slots Q (F0 m (pc + 1) ls (.int x :: rest))) : W p l e R s m args below meth c H locs cells slots Q (F0 m pc ls (.int i :: .ref a :: rest)) := by
  subst hx
  exact va_iald hexec hb hK (hV.one he) 0 t0 rfl ht hin hdg kk
theorem m_zald (hexec : p.tables.exec = Jvm.exec) (hb : c.code = cc) (hK : va_K D vwCl tys s) (hV : mV D h A H) (t0 : Nat) {cA : ClassId} {n : Nat} {f : Nat → Int32} (he : h a = some (.inl (cA, n, .inl f))) (ht : tys[t0]? = some (cA, .boolean)) {i : Int32} (hin : vp_in i n) {x : Int32} (hx : f i.toNatClampNeg = x) (hdg : decode cc pc = .ok (.baload, 1))
    (kk : W p l e R s m args below meth c H locs cells slots Q (F0 m (pc + 1) ls (.int x :: rest))) : W p l e R s m args below meth c H locs cells slots Q (F0 m pc ls (.int i :: .ref a :: rest)) := by
  subst hx
  exact va_zald hexec hb hK (hV.one he) 0 t0 rfl ht hin hdg kk
theorem m_lald (hexec : p.tables.exec = Jvm.exec) (hb : c.code = cc) (hK : va_K D vwCl tys s) (hV : mV D h A H) (t0 : Nat) {cA : ClassId} {n : Nat} {f : Nat → Int64} (he : h a = some (.inl (cA, n, .inr (.inl f)))) (ht : tys[t0]? = some (cA, .long)) {i : Int32} (hin : vp_in i n) {x : Int64} (hx : f i.toNatClampNeg = x) (hdg : decode cc pc = .ok (.laload, 1))
    (kk : W p l e R s m args below meth c H locs cells slots Q (F0 m (pc + 1) ls (.long x :: rest))) : W p l e R s m args below meth c H locs cells slots Q (F0 m pc ls (.int i :: .ref a :: rest)) := by
  subst hx
  exact va_lald hexec hb hK (hV.one he) 0 t0 rfl ht hin hdg kk
theorem m_dald (hexec : p.tables.exec = Jvm.exec) (hb : c.code = cc) (hK : va_K D vwCl tys s) (hV : mV D h A H) (t0 : Nat) {cA : ClassId} {n : Nat} {f : Nat → UInt64} (he : h a = some (.inl (cA, n, .inr (.inr (.inr (.inl f)))))) (ht : tys[t0]? = some (cA, .double)) {i : Int32} (hin : vp_in i n) {x : UInt64} (hx : f i.toNatClampNeg = x) (hdg : decode cc pc = .ok (.daload, 1))
    (kk : W p l e R s m args below meth c H locs cells slots Q (F0 m (pc + 1) ls (.double x :: rest))) : W p l e R s m args below meth c H locs cells slots Q (F0 m pc ls (.int i :: .ref a :: rest)) := by
  subst hx
  exact va_dald hexec hb hK (hV.one he) 0 t0 rfl ht hin hdg kk
theorem m_aald (hexec : p.tables.exec = Jvm.exec) (hb : c.code = cc) (hK : va_K D vwCl tys s) (hV : mV D h A H) (t0 : Nat) {cA : ClassId} {C : String} {n : Nat} {f : Nat → Option Nat} (he : h a = some (.inl (cA, n, .inr (.inr (.inr (.inr f)))))) (ht : tys[t0]? = some (cA, .object C)) {i : Int32} (hin : vp_in i n) {x : Option Nat} (hx : f i.toNatClampNeg = x) (hdg : decode cc pc = .ok (.aaload, 1))
    (kk : W p l e R s m args below meth c H locs cells slots Q (F0 m (pc + 1) ls (va_rf x :: rest))) : W p l e R s m args below meth c H locs cells slots Q (F0 m pc ls (.int i :: .ref a :: rest)) := by
  subst hx
  exact va_aldq hexec hb hK (hV.one he) 0 t0 rfl ht hin hdg kk
/-- an array may be written, and what holds then -/
def mAp (h : mH) (a : Nat) (cA : ClassId) (n : Nat) (e e1 : (Nat → Int32) ⊕ (Nat → Int64) ⊕ (Nat → UInt32) ⊕ (Nat → UInt64) ⊕ (Nat → Option Nat)) (Rp : mH → Prop) : Prop := h a = some (.inl (cA, n, e)) ∧ Rp (mu h a (.inl (cA, n, e1)))
theorem m_iast (hexec : p.tables.exec = Jvm.exec) (hb : c.code = cc) (hK : va_K D vwCl tys s) (hV : mV D h A H) (hS : va_S A H0 H locs) (t0 : Nat) {cA : ClassId} {n : Nat} {f : Nat → Int32} {i : Int32} {x : Int32} (hp : mAp h a cA n (.inl f) (.inl (upd f i.toNatClampNeg x)) Rp) (ht : tys[t0]? = some (cA, .int)) (hin : vp_in i n) (hdg : decode cc pc = .ok (.iastore, 1))
    (kk : ∀ (h1 : mH) (H1 : Heap) (locs1 : List Loc), mV D h1 A H1 → va_S A H0 H1 locs1 → Rp h1 → W p l e R s m args below meth c H1 locs1 cells slots Q (F0 m (pc + 1) ls rest)) : W p l e R s m args below meth c H locs cells slots Q (F0 m pc ls (.int x :: .int i :: .ref a :: rest)) := by
  obtain ⟨he, hR⟩ := hp
  obtain ⟨ws, hP, hD, hh⟩ := hV
  obtain ⟨j, hj⟩ := List.getElem?_of_mem ((hh _ _).mp he)
  exact va_iast hexec hb hK hP hD hS j t0 hj ht hin hdg (fun H1 locs1 hP1 hD1 hS1 => kk _ H1 locs1 ⟨_, hP1, hD1, m_view_set hD hh hj⟩ hS1 hR)
theorem m_zast (hexec : p.tables.exec = Jvm.exec) (hb : c.code = cc) (hK : va_K D vwCl tys s) (hV : mV D h A H) (hS : va_S A H0 H locs) (t0 : Nat) {cA : ClassId} {n : Nat} {f : Nat → Int32} {i : Int32} {x : Int32} (hp : mAp h a cA n (.inl f) (.inl (upd f i.toNatClampNeg x)) Rp) (ht : tys[t0]? = some (cA, .boolean)) (hin : vp_in i n) (hx : vp_nar .boolean x = x) (hdg : decode cc pc = .ok (.bastore, 1))
    (kk : ∀ (h1 : mH) (H1 : Heap) (locs1 : List Loc), mV D h1 A H1 → va_S A H0 H1 locs1 → Rp h1 → W p l e R s m args below meth c H1 locs1 cells slots Q (F0 m (pc + 1) ls rest)) : W p l e R s m args below meth c H locs cells slots Q (F0 m pc ls (.int x :: .int i :: .ref a :: rest)) := by
  obtain ⟨he, hR⟩ := hp
  obtain ⟨ws, hP, hD, hh⟩ := hV
  obtain ⟨j, hj⟩ := List.getElem?_of_mem ((hh _ _).mp he)
  refine va_zast hexec hb hK hP hD hS j t0 hj ht hin hdg (fun H1 locs1 hP1 hD1 hS1 => ?_)
  rw [hx] at hP1 hD1
  exact kk _ H1 locs1 ⟨_, hP1, hD1, m_view_set hD hh hj⟩ hS1 hR
theorem m_last (hexec : p.tables.exec = Jvm.exec) (hb : c.code = cc) (hK : va_K D vwCl tys s) (hV : mV D h A H) (hS : va_S A H0 H locs) (t0 : Nat) {cA : ClassId} {n : Nat} {f : Nat → Int64} {i : Int32} {x : Int64} (hp : mAp h a cA n (.inr (.inl f)) (.inr (.inl (vp_updL f i.toNatClampNeg x))) Rp) (ht : tys[t0]? = some (cA, .long)) (hin : vp_in i n) (hdg : decode cc pc = .ok (.lastore, 1))
    (kk : ∀ (h1 : mH) (H1 : Heap) (locs1 : List Loc), mV D h1 A H1 → va_S A H0 H1 locs1 → Rp h1 → W p l e R s m args below meth c H1 locs1 cells slots Q (F0 m (pc + 1) ls rest)) : W p l e R s m args below meth c H locs cells slots Q (F0 m pc ls (.long x :: .int i :: .ref a :: rest)) := by
  obtain ⟨he, hR⟩ := hp
  obtain ⟨ws, hP, hD, hh⟩ := hV
  obtain ⟨j, hj⟩ := List.getElem?_of_mem ((hh _ _).mp he)
  exact va_last hexec hb hK hP hD hS j t0 hj ht hin hdg (fun H1 locs1 hP1 hD1 hS1 => kk _ H1 locs1 ⟨_, hP1, hD1, m_view_set hD hh hj⟩ hS1 hR)
theorem m_dast (hexec : p.tables.exec = Jvm.exec) (hb : c.code = cc) (hK : va_K D vwCl tys s) (hV : mV D h A H) (hS : va_S A H0 H locs) (t0 : Nat) {cA : ClassId} {n : Nat} {f : Nat → UInt64} {i : Int32} {x : UInt64} (hp : mAp h a cA n (.inr (.inr (.inr (.inl f)))) (.inr (.inr (.inr (.inl (vf_upd f i.toNatClampNeg x))))) Rp) (ht : tys[t0]? = some (cA, .double)) (hin : vp_in i n) (hdg : decode cc pc = .ok (.dastore, 1))
    (kk : ∀ (h1 : mH) (H1 : Heap) (locs1 : List Loc), mV D h1 A H1 → va_S A H0 H1 locs1 → Rp h1 → W p l e R s m args below meth c H1 locs1 cells slots Q (F0 m (pc + 1) ls rest)) : W p l e R s m args below meth c H locs cells slots Q (F0 m pc ls (.double x :: .int i :: .ref a :: rest)) := by
  obtain ⟨he, hR⟩ := hp
  obtain ⟨ws, hP, hD, hh⟩ := hV
  obtain ⟨j, hj⟩ := List.getElem?_of_mem ((hh _ _).mp he)
  exact va_dast hexec hb hK hP hD hS j t0 hj ht hin hdg (fun H1 locs1 hP1 hD1 hS1 => kk _ H1 locs1 ⟨_, hP1, hD1, m_view_set hD hh hj⟩ hS1 hR)
theorem m_aast (hexec : p.tables.exec = Jvm.exec) (hb : c.code = cc) (hK : va_K D vwCl tys s) (hV : mV D h A H) (hS : va_S A H0 H locs) (t0 : Nat) {E : String} {cA : ClassId} {n v : Nat} {f : Nat → Option Nat} {i : Int32} (hp : mAp h a cA n (.inr (.inr (.inr (.inr f)))) (.inr (.inr (.inr (.inr (va_up f i.toNatClampNeg (some v)))))) Rp) (ht : tys[t0]? = some (cA, .object E)) (hr : va_Any E s H v) (hin : vp_in i n) (hdg : decode cc pc = .ok (.aastore, 1))
    (kk : ∀ (h1 : mH) (H1 : Heap) (locs1 : List Loc), mV D h1 A H1 → va_S A H0 H1 locs1 → Rp h1 → W p l e R s m args below meth c H1 locs1 cells slots Q (F0 m (pc + 1) ls rest)) : W p l e R s m args below meth c H locs cells slots Q (F0 m pc ls (.ref v :: .int i :: .ref a :: rest)) := by
  obtain ⟨he, hR⟩ := hp
  obtain ⟨ws, hP, hD, hh⟩ := hV
  obtain ⟨j, hj⟩ := List.getElem?_of_mem ((hh _ _).mp he)
  exact va_astqM hexec hb hK hP hD hS j t0 hj ht hr hin hdg (fun H1 locs1 hP1 hD1 hS1 => kk _ H1 locs1 ⟨_, hP1, hD1, m_view_set hD hh hj⟩ hS1 hR)
theorem m_aastN (hexec : p.tables.exec = Jvm.exec) (hb : c.code = cc) (hK : va_K D vwCl tys s) (hV : mV D h A H) (hS : va_S A H0 H locs) (t0 : Nat) {E : String} {cA : ClassId} {n : Nat} {f : Nat → Option Nat} {i : Int32} (hp : mAp h a cA n (.inr (.inr (.inr (.inr f)))) (.inr (.inr (.inr (.inr (va_up f i.toNatClampNeg none))))) Rp) (ht : tys[t0]? = some (cA, .object E)) (hin : vp_in i n) (hdg : decode cc pc = .ok (.aastore, 1))
    (kk : ∀ (h1 : mH) (H1 : Heap) (locs1 : List Loc), mV D h1 A H1 → va_S A H0 H1 locs1 → Rp h1 → W p l e R s m args below meth c H1 locs1 cells slots Q (F0 m (pc + 1) ls rest)) : W p l e R s m args below meth c H locs cells slots Q (F0 m pc ls (.null :: .int i :: .ref a :: rest)) := by
  obtain ⟨he, hR⟩ := hp
  obtain ⟨ws, hP, hD, hh⟩ := hV
  obtain ⟨j, hj⟩ := List.getElem?_of_mem ((hh _ _).mp he)
  exact va_astqN hexec hb hK hP hD hS j t0 hj ht hin hdg (fun H1 locs1 hP1 hD1 hS1 => kk _ H1 locs1 ⟨_, hP1, hD1, m_view_set hD hh hj⟩ hS1 hR)
theorem m_alen (hexec : p.tables.exec = Jvm.exec) (hb : c.code = cc) (hK : va_K D vwCl tys s) (hV : mV D h A H) (t0 : Nat) {cA : ClassId} {x : vp_A} (he : h a = some (.inl (cA, x))) {ty : FieldType} (ht : tys[t0]? = some (cA, ty)) {v : Int32} (hv : Int32.ofNat x.1 = v) (hdg : decode cc pc = .ok (.arraylength, 1))
    (kk : W p l e R s m args below meth c H locs cells slots Q (F0 m (pc + 1) ls (.int v :: rest))) : W p l e R s m args below meth c H locs cells slots Q (F0 m pc ls (.ref a :: rest)) :=
  va_alen hexec hb hK (hV.one he) 0 t0 rfl ht hv hdg kk
theorem m_new {c0 : Code} (hexec : p.tables.exec = Jvm.exec) (hb : c0.code = cc) {own C : String} {T : u_T} {N ci index : Nat} {Ts : List Cond} (hts : ∀ w ∈ Ts, w.before args s = true) (hin : ∀ w ∈ u_ws C T N, w ∈ Ts) (ty : Nat → FieldType) (hty : ∀ k, k < N → parseFieldDescriptor (T k).2.2.1 = some (ty k)) (hown : s.vm.findClass own = some m.cls) (hcl : (Cond.classLink own index C).before args s = true) (hinst : (Cond.instantiable C N).before args s = true) (hini : (Cond.initialized C).before args s = true)
    (hK : va_K D vwCl tys s) (hV : mV D h A H) (hS : va_S A H0 H locs) (hA : ∀ q, H0.size ≤ q → A q) (hc : vwCl[ci]? = some (C, T, N)) {fs : List Value} (hfs : ∀ j, j < N → defaultValue (ty j) = vp_V fs j) (hcells : cells + 1 ≤ R.cells) (hslots : slots + N ≤ R.slots) (hdg : decode cc pc = .ok (.new index, 3))
    (kk : ∀ (q : Nat) (H1 : Heap), h q = none → mV D (mu h q (.inr (ci, fs))) A H1 → va_S A H0 H1 locs →
      W p l e R s m args below meth c0 H1 locs (cells + 1) (slots + N) Q (F0 m (pc + 3) ls (.ref q :: rest))) : W p l e R s m args below meth c0 H locs cells slots Q (F0 m pc ls rest) := by
  obtain ⟨ws, hP, hD, hh⟩ := hV
  refine va_new hexec hb hts hin ty hty hown hcl hinst hini hK hP hD hS hA hc hfs hcells hslots hdg (fun q H1 hP1 hD1 hS1 => ?_)
  obtain ⟨h0, h1⟩ := m_view_new hD1 hh
  exact kk q H1 h0 ⟨_, hP1, hD1, h1⟩ hS1
end MK
