/-! MAKING OBJECTS -/
section MN
variable {p : Program} {l : Launch} {e : Env} {R : Room} {s : State} {m : MethodId} {args : Array Value} {below : List Frame} {meth : Method} {c : Code} {H : Heap} {locs : List Loc} {cells slots : Nat} {Q : State → Prop}
variable {cc : ByteArray} {pc : Nat} {ls : Array Slot} {rest : List Value} {D : va_G} {A : Nat → Prop} {a : Nat} {tys : List (ClassId × FieldType)} {H0 : Heap} {h : mH}
theorem m_newo (hexec : p.tables.exec = Jvm.exec) (hb : c.code = cc) {own C : String} {T : u_T} {N ci index : Nat} {Ts : List Cond} (hts : ∀ w ∈ Ts, w.before args s = true) (hin : ∀ w ∈ u_ws C T N, w ∈ Ts) (ty : Nat → FieldType) (hty : ∀ k, k < N → parseFieldDescriptor (T k).2.2.1 = some (ty k)) (hown : s.vm.findClass own = some m.cls) (hcl : (Cond.classLink own index C).before args s = true) (hinst : (Cond.instantiable C N).before args s = true) (hini : (Cond.initialized C).before args s = true)
    (hK : va_K D vwCl tys s) (hV : mV D h A H) (hS : va_S A H0 H locs) (hA : ∀ q, H0.size ≤ q → A q) (hc : vwCl[ci]? = some (C, T, N)) {fs : List Value} (hfs : ∀ j, j < N → defaultValue (ty j) = vp_V fs j) (hcells : cells + 1 ≤ R.cells) (hslots : slots + N ≤ R.slots) (hdg : decode cc pc = .ok (.new index, 3))
    (kk : ∀ (q : Nat) (H1 : Heap), h q = none → mV D (mu h q (.inr (ci, fs))) A H1 → va_S A H0 H1 locs →
      W p l e R s m args below meth c H1 locs (cells + 1) (slots + N) Q (F0 m (pc + 3) ls (.ref q :: rest))) : W p l e R s m args below meth c H locs cells slots Q (F0 m pc ls rest) := by
  obtain ⟨ws, hP, hD, hh⟩ := hV
  refine va_new hexec hb hts hin ty hty hown hcl hinst hini hK hP hD hS hA hc hfs hcells hslots hdg (fun q H1 hP1 hD1 hS1 => ?_)
  obtain ⟨h0, h1⟩ := m_view_new hD1 hh
  exact kk q H1 h0 ⟨_, hP1, hD1, h1⟩ hS1
end MN
section NEW
variable {l : Launch} {D : va_G} {cs : mC} {df : Nat} {P : Nat → Prop} {h0 hh : mH} {L : KL} {R : KR} {σ : KS}
theorem CRepR.fresh (hC : CRepR cs df P h0 L R σ hh) {q : Nat} (hq : hh q = none) (e : va_E) : CRepR cs df P h0 L R σ (mu hh q e) := by
  refine ⟨fun k i ok => ⟨?_, (hC.1 k i ok).2⟩, hC.2.1, ⟨fun a ha => ?_, hC.2.2.1.2⟩, hC.2.2.2⟩
  · rw [mu_n (m_fresh hq (hC.at ok))]
    exact hC.at ok
  · rw [mu_n (fun z => ha (by rw [z]; exact hC.own hq))]
    exact hC.2.2.1.1 a ha
theorem CRep.fresh (hC : CRep cs df P h0 L σ hh) {q : Nat} (hq : hh q = none) (e : va_E) : CRep cs df P h0 L σ (mu hh q e) := by
  obtain ⟨R, hC⟩ := hC
  exact ⟨R, hC.fresh hq e⟩
/-- the list j is longer by one -/
def lGrow (σ : KS) (j : Nat) : KS := sN (sN (sI σ 60 (va_up (kI σ 60) j (kI σ 60 j + 1))) 61 (va_up (kN σ 61) j (ncap (kN σ 61 j) (kN σ 62 j)))) 62 (va_up (kN σ 62) j (kN σ 62 j + 1))
theorem lGrow_62 (σ : KS) {i j : Nat} (h : i ≠ j) : kN (lGrow σ j) 62 i = kN σ 62 i := vu_n _ _ h
theorem lGrow_62s (σ : KS) (j : Nat) : kN (lGrow σ j) 62 j = kN σ 62 j + 1 := vu_s _ _ _
theorem lGrow_61 (σ : KS) {i j : Nat} (h : i ≠ j) : kN (lGrow σ j) 61 i = kN σ 61 i := vu_n _ _ h
theorem lGrow_61s (σ : KS) (j : Nat) : kN (lGrow σ j) 61 j = ncap (kN σ 61 j) (kN σ 62 j) := vu_s _ _ _
/-- where things lie, with one more of the kind k0 -/
def Lnew (L : KL) (k0 n q : Nat) : KL := fun k i => if k = k0 ∧ i = n then q else L k i
theorem Lnew_s (L : KL) (k0 n q : Nat) : Lnew L k0 n q k0 n = q := if_pos ⟨rfl, rfl⟩
theorem Lnew_k (L : KL) {k0 n q k i : Nat} (h : k ≠ k0) : Lnew L k0 n q k i = L k i := if_neg (fun z => h z.1)
theorem Lnew_i (L : KL) {k0 n q k i : Nat} (h : i ≠ n) : Lnew L k0 n q k i = L k i := if_neg (fun z => h z.2)
theorem Lnew_o (L : KL) {k0 n q k : Nat} {o : Option Nat} (h : ∀ i, o = some i → i < n) : o.map (Lnew L k0 n q k) = o.map (L k) := by
  cases o with
  | none => rfl
  | some i => exact congrArg some (Lnew_i L (by have := h i rfl; omega))
theorem Lnew_ok (L : KL) {k0 n q k : Nat} {o : Option Nat} (h : k ≠ k0) : o.map (Lnew L k0 n q k) = o.map (L k) := by
  cases o with
  | none => rfl
  | some i => exact congrArg some (Lnew_k L h)
/-- a thing's cell says the same of the others where one more has been made -/
theorem cCell_new (hw : cWF σ) {k0 q : Nat} (hk : k0 = 1 ∨ k0 = 2 ∨ k0 = 3) {k i : Nat} (hk5 : k < 5) (ok : cOk σ k i) : cCell0 (Lnew L k0 (kN σ 62 (k0 - 1)) q) σ k i = cCell0 L σ k i := by
  have w := hw
  obtain ⟨⟨z0, z1, z2, z3, z4⟩, _, _, w12, w20, w31, w42, w43, w50⟩ := hw
  have e5 : ∀ j, Lnew L k0 (kN σ 62 (k0 - 1)) q 5 j = L 5 j := fun j => Lnew_k L (by omega)
  have e2 : ∀ j, j < kN σ 62 1 → Lnew L k0 (kN σ 62 (k0 - 1)) q 2 j = L 2 j := fun j hj => by
    by_cases z : k0 = 2
    · subst z; exact Lnew_i L (Nat.ne_of_lt hj)
    · exact Lnew_k L (Ne.symm z)
  match k, ok with
  | 0, ok => simp only [cCell0, e5, e2 0 (by omega)]
  | 1, ok =>
    have : (kO σ 12 i).map (Lnew L k0 (kN σ 62 (k0 - 1)) q 3) = (kO σ 12 i).map (L 3) := by
      by_cases z : k0 = 3
      · subst z; exact Lnew_o L (fun t h => w12 i ok t h)
      · exact Lnew_ok L (Ne.symm z)
    simp only [cCell0, this]
  | 2, ok =>
    have : (kO σ 20 i).map (Lnew L k0 (kN σ 62 (k0 - 1)) q 2) = (kO σ 20 i).map (L 2) := by
      by_cases z : k0 = 2
      · subst z; exact Lnew_o L (fun t h => (wf_par w ok h).2)
      · exact Lnew_ok L (Ne.symm z)
    simp only [cCell0, this]
  | 3, ok =>
    have h1 : (kO σ 43 i).map (Lnew L k0 (kN σ 62 (k0 - 1)) q 1) = (kO σ 43 i).map (L 1) := by
      by_cases z : k0 = 1
      · subst z; exact Lnew_o L (fun t h => w43 i ok t h)
      · exact Lnew_ok L (Ne.symm z)
    have h2 : (kO σ 42 i).map (Lnew L k0 (kN σ 62 (k0 - 1)) q 4) = (kO σ 42 i).map (L 4) := Lnew_ok L (by omega)
    simp only [cCell0, h1, h2, e2 _ (w31 i ok)]
  | 4, ok =>
    have : (kO σ 50 i).map (Lnew L k0 (kN σ 62 (k0 - 1)) q 3) = (kO σ 50 i).map (L 3) := by
      by_cases z : k0 = 3
      · subst z; exact Lnew_o L (fun t h => w50 i ok t h)
      · exact Lnew_ok L (Ne.symm z)
    simp only [cCell0, this, e5]
  | n + 5, _ => omega
/-- the general row: a new thing of the kind k0 goes to the end of its list -/
theorem CRep.grow {k0 q : Nat} {h1 : mH} {R1 : KR} {τ : KS} (hk : k0 = 1 ∨ k0 = 2 ∨ k0 = 3) (hC : CRepR cs df P h0 L R σ hh) (hz : kN σ 62 (k0 - 1) ≤ 12) (hq : hh q = none)
    (hA : LA cs L R σ (k0 - 1) q (mu hh q (cCell0 (Lnew L k0 (kN σ 62 (k0 - 1)) q) τ k0 (kN σ 62 (k0 - 1)))) h1 R1)
    (e60 : kI τ 60 = kI σ 60) (e61 : kN τ 61 = kN σ 61) (e62 : kN τ 62 = kN σ 62) (eL : kL τ = kL σ)
    (hcell : ∀ k i, k < 5 → cOk σ k i → cCell0 (Lnew L k0 (kN σ 62 (k0 - 1)) q) (lGrow τ (k0 - 1)) k i = cCell0 (Lnew L k0 (kN σ 62 (k0 - 1)) q) σ k i)
    (hw : cWF (lGrow τ (k0 - 1))) : CRep cs df P h0 (Lnew L k0 (kN σ 62 (k0 - 1)) q) (lGrow τ (k0 - 1)) h1 := by
  have hj : k0 - 1 < 8 := by omega
  have g62 : ∀ i, i ≠ k0 - 1 → kN (lGrow τ (k0 - 1)) 62 i = kN σ 62 i := fun i hi => (lGrow_62 τ hi).trans (by rw [e62])
  have s62 : kN (lGrow τ (k0 - 1)) 62 (k0 - 1) = kN σ 62 (k0 - 1) + 1 := (lGrow_62s τ _).trans (by rw [e62])
  have g61 : ∀ i, i ≠ k0 - 1 → kN (lGrow τ (k0 - 1)) 61 i = kN σ 61 i := fun i hi => (lGrow_61 τ hi).trans (by rw [e61])
  have s61 : kN (lGrow τ (k0 - 1)) 61 (k0 - 1) = ncap (kN σ 61 (k0 - 1)) (kN σ 62 (k0 - 1)) := (lGrow_61s τ _).trans (by rw [e61, e62])
  have g60 : ∀ i, i ≠ k0 - 1 → kI (lGrow τ (k0 - 1)) 60 i = kI σ 60 i := fun i hi => by
    show va_up (kI τ 60) (k0 - 1) _ i = _
    rw [vu_n _ _ hi, e60]
  have s60 : kI (lGrow τ (k0 - 1)) 60 (k0 - 1) = kI σ 60 (k0 - 1) + 1 := by
    show va_up (kI τ 60) (k0 - 1) _ (k0 - 1) = _
    rw [vu_s, e60]
  have hF := hC.fresh hq (cCell0 (Lnew L k0 (kN σ 62 (k0 - 1)) q) τ k0 (kN σ 62 (k0 - 1)))
  obtain ⟨a1, a2, a3, a4, a5, a6⟩ := id hA
  have hlc : ∀ k i, cOk σ k i → k < 6 → Lnew L k0 (kN σ 62 (k0 - 1)) q k i = L k i := fun k i ok hk6 => by
    by_cases z : k = k0
    · subst z
      refine Lnew_i L (Nat.ne_of_lt ?_)
      rcases hk with rfl | rfl | rfl
      · exact ok
      · exact ok
      · exact ok
    · exact Lnew_k L z
  refine ⟨R1, hA.rep (k0 := k0) (i0 := kN σ 62 (k0 - 1)) hF hj (by omega) hlc s60 s61 s62 (fun k i ok => ?_) (fun ok => ⟨by omega, ?_, ?_, fun i ok2 => ?_⟩) hw (fun j hj2 => ?_)⟩
  · by_cases z5 : k = 5 ∧ i = k0 - 1
    · exact Or.inl z5
    by_cases z6 : k = 6 ∧ i = k0 - 1
    · exact Or.inr (Or.inl z6)
    by_cases z0 : k = k0 ∧ i = kN σ 62 (k0 - 1)
    · exact Or.inr (Or.inr (Or.inl z0))
    have n5 : k = 5 → i ≠ k0 - 1 := fun a b => z5 ⟨a, b⟩
    have n6 : k = 6 → i ≠ k0 - 1 := fun a b => z6 ⟨a, b⟩
    have up : ∀ j, j < 3 → k = j + 1 → i < kN (lGrow τ (k0 - 1)) 62 j → i < kN σ 62 j := fun j hj3 hkj hi => by
      by_cases z : j = k0 - 1
      · subst z
        have : i ≠ kN σ 62 (k0 - 1) := fun z => z0 ⟨by omega, z⟩
        rw [s62] at hi
        omega
      · rw [g62 j z] at hi
        exact hi
    have ok0 : cOk σ k i := by
      match k, ok with
      | 0, ok => exact ok
      | 1, ok => exact up 0 (by decide) rfl ok
      | 2, ok => exact up 1 (by decide) rfl ok
      | 3, ok => exact up 2 (by decide) rfl ok
      | 4, ok => exact ok
      | 5, ok => exact ok
      | 6, ok => exact ⟨ok.1, fun z => ok.2 ((g61 i (n6 rfl)).trans z)⟩
    refine Or.inr (Or.inr (Or.inr ⟨ok0, n5, n6, ?_⟩))
    by_cases k5 : k < 5
    · rw [cCell_lt _ _ _ _ _ _ k5, cCell_lt _ _ _ _ _ _ k5, hcell k i k5 ok0, cCell_new hC.2.2.2.1 hk k5 ok0]
    · have := cOk_lt ok
      rcases (by omega : k = 5 ∨ k = 6) with rfl | rfl
      · show Sum.inr (2, [Value.int (kI (lGrow τ (k0 - 1)) 60 i), Value.ref (if kN (lGrow τ (k0 - 1)) 61 i = 0 then df else R1.1 i), Value.int (nI (kN (lGrow τ (k0 - 1)) 62 i))]) = _
        rw [g60 i (n5 rfl), g61 i (n5 rfl), g62 i (n5 rfl), (a5 i (n5 rfl)).1]
        rfl
      · show Sum.inl (_, kN (lGrow τ (k0 - 1)) 61 i, Sum.inr (Sum.inr (Sum.inr (Sum.inr (R1.2 i))))) = _
        rw [g61 i (n6 rfl), (a5 i (n6 rfl)).2]
        rfl
  · rw [Lnew_s, mu_s]
    rcases hk with rfl | rfl | rfl <;> rfl
  · rw [Lnew_s]
    exact hC.own hq
  · rw [Lnew_s]
    intro z
    have h9 := hC.at ok2
    rw [cAd_lt _ _ _ (by omega), z, hq] at h9
    cases h9
  · have hq0 := hC.2.2.2.2 j hj2
    have eE : ∀ i, kE (lGrow τ (k0 - 1)) j i = kE σ j i := fun i => by
      show (if j < 4 then i else (kL τ j).getD i 0) = _
      rw [eL]
      rfl
    by_cases z : j = k0 - 1
    · subst z
      rw [a6]
      refine ⟨fun i hi => ?_, fun i hi => ?_⟩
      · rw [s62] at hi
        have kk : kd (k0 - 1) = k0 := by rcases hk with rfl | rfl | rfl <;> rfl
        have ke : kE σ (k0 - 1) i = i := if_pos (by omega)
        rw [eE, kk, ke]
        by_cases w : i = kN σ 62 (k0 - 1)
        · subst w
          rw [vu_s, Lnew_s]
        · rw [vu_n _ _ w, Lnew_i L w, hq0.1 i (by omega), kk, ke]
      · rw [s62] at hi
        rw [vu_n _ _ (by omega)]
        exact hq0.2 i (by omega)
    · rw [(a5 j z).2]
      refine ⟨fun i hi => ?_, fun i hi => ?_⟩
      · rw [g62 j z] at hi
        rw [eE, hq0.1 i hi]
        have hke := kE_ok hC.2.2.2.1 hj2 hi
        refine congrArg some (hlc _ _ hke.1 (by omega)).symm
      · rw [g62 j z] at hi
        exact hq0.2 i hi
/-- the states with one more -/
def coreN (σ : KS) (x : Int32) : KS := sO (sI (sI σ 10 (va_up (kI σ 10) (kN σ 62 0) x)) 11 (va_up (kI σ 11) (kN σ 62 0) 0)) 12 (va_up (kO σ 12) (kN σ 62 0) none)
def grpN (σ : KS) (g : Nat) (u : Int32) (t : Int64) : KS := sB (sI (sW (sI (sO σ 20 (va_up (kO σ 20) (kN σ 62 1) (some g))) 22 (va_up (kI σ 22) (kN σ 62 1) u)) 23 (va_up (kW σ 23) (kN σ 62 1) t)) 24 (va_up (kI σ 24) (kN σ 62 1) 0)) 25 (va_up (kB σ 25) (kN σ 62 1) false)
def tskN (σ : KS) (g : Nat) (u : Int32) (t : Int64) (le pe bu sh dl : Int32) : KS :=
  sB (sI (sO (sO (sI (sI (sI (sI (sI (sB (sI (sI (sW (sI (sN σ 31 (va_up (kN σ 31) (kN σ 62 2) g)) 32 (va_up (kI σ 32) (kN σ 62 2) u)) 33 (va_up (kW σ 33) (kN σ 62 2) t)) 34 (va_up (kI σ 34) (kN σ 62 2) le)) 35 (va_up (kI σ 35) (kN σ 62 2) 0)) 36 (va_up (kB σ 36) (kN σ 62 2) false)) 37 (va_up (kI σ 37) (kN σ 62 2) pe)) 38 (va_up (kI σ 38) (kN σ 62 2) bu)) 39 (va_up (kI σ 39) (kN σ 62 2) sh)) 40 (va_up (kI σ 40) (kN σ 62 2) dl)) 41 (va_up (kI σ 41) (kN σ 62 2) 0)) 42 (va_up (kO σ 42) (kN σ 62 2) none)) 43 (va_up (kO σ 43) (kN σ 62 2) none)) 44 (va_up (kI σ 44) (kN σ 62 2) 0)) 45 (va_up (kB σ 45) (kN σ 62 2) false)
def coreS (σ : KS) (x : Int32) : KS := lGrow (coreN σ x) 0
def grpS (σ : KS) (g : Nat) (u : Int32) (t : Int64) : KS := lGrow (grpN σ g u t) 1
def tskS (σ : KS) (g : Nat) (u : Int32) (t : Int64) (le pe bu sh dl : Int32) : KS := lGrow (tskN σ g u t le pe bu sh dl) 2
theorem wf_lists {σ τ : KS} (hw : cWF σ) {j0 : Nat} (hj0 : j0 < 3) (hz : kN σ 62 j0 ≤ 12) (e61 : kN τ 61 = kN σ 61) (e62 : kN τ 62 = kN σ 62) : ∀ j, j < 8 → kN (lGrow τ j0) 62 j ≤ kN (lGrow τ j0) 61 j ∧ kN (lGrow τ j0) 61 j ≤ 100 := by
  intro j hj
  by_cases z : j = j0
  · subst z
    rw [lGrow_62s, lGrow_61s, e61, e62]
    exact ncap_ok (hw.2.1 j hj).1 (hw.2.1 j hj).2 (by omega)
  · rw [lGrow_62 _ z, lGrow_61 _ z, e61, e62]
    exact hw.2.1 j hj
theorem coreS_wf (hw : cWF σ) (hn : kN σ 62 0 < 3) (x : Int32) : cWF (coreS σ x) := by
  obtain ⟨⟨z0, z1, z2, z3, z4⟩, w5, w6, w12, w20, w31, w42, w43, w50⟩ := id hw
  have n0 : kN (coreS σ x) 62 0 = kN σ 62 0 + 1 := lGrow_62s (coreN σ x) 0
  have n1 : ∀ k, k ≠ 0 → kN (coreS σ x) 62 k = kN σ 62 k := fun k hk => vu_n _ _ hk
  refine ⟨⟨by omega, by rw [n1 1 (by decide)]; exact z1, by rw [n1 1 (by decide)]; exact z2, by rw [n1 2 (by decide)]; exact z3, by rw [n1 3 (by decide)]; exact z4⟩, wf_lists hw (by decide) (by omega) rfl rfl, fun l hl => ?_, fun i hi t ht => ?_, ?_, fun t ht => ?_, fun t ht l h => ?_, fun t ht i h => ?_, fun l hl t h => ?_⟩
  · rw [n1 _ (by omega), n1 _ (by omega)]; exact w6 l hl
  · rw [n1 2 (by decide)]
    replace ht : va_up (kO σ 12) (kN σ 62 0) none i = some t := ht
    by_cases q : i = kN σ 62 0
    · subst q; rw [vu_s] at ht; cases ht
    · rw [vu_n _ _ q] at ht; exact w12 i (by omega) t ht
  · rw [n1 1 (by decide)]; exact w20
  · rw [n1 1 (by decide)]; rw [n1 2 (by decide)] at ht; exact w31 t ht
  · rw [n1 2 (by decide)] at ht; exact w42 t ht l h
  · rw [n1 2 (by decide)] at ht; have := w43 t ht i h; omega
  · rw [n1 2 (by decide)]; exact w50 l hl t h
theorem grpS_wf (hw : cWF σ) (hn : kN σ 62 1 < 6) {g : Nat} (hg : g < kN σ 62 1) (u : Int32) (t : Int64) : cWF (grpS σ g u t) := by
  obtain ⟨⟨z0, z1, z2, z3, z4⟩, w5, w6, w12, w20, w31, w42, w43, w50⟩ := id hw
  have n0 : kN (grpS σ g u t) 62 1 = kN σ 62 1 + 1 := lGrow_62s (grpN σ g u t) 1
  have n1 : ∀ k, k ≠ 1 → kN (grpS σ g u t) 62 k = kN σ 62 k := fun k hk => vu_n _ _ hk
  refine ⟨⟨by rw [n1 0 (by decide)]; exact z0, by omega, by omega, by rw [n1 2 (by decide)]; exact z3, by rw [n1 3 (by decide)]; exact z4⟩, wf_lists hw (by decide) (by omega) rfl rfl, fun l hl => ?_, fun i hi t ht => ?_, ⟨?_, fun k hk0 hk => ?_⟩, fun t ht => ?_, fun t ht l h => ?_, fun t ht i h => ?_, fun l hl t h => ?_⟩
  · rw [n1 _ (by omega), n1 _ (by omega)]; exact w6 l hl
  · rw [n1 2 (by decide)]; rw [n1 0 (by decide)] at hi; exact w12 i hi t ht
  · show va_up (kO σ 20) (kN σ 62 1) (some g) 0 = none
    rw [vu_n _ _ (by omega)]; exact w20.1
  · show ∃ r, va_up (kO σ 20) (kN σ 62 1) (some g) k = some r ∧ r < k
    by_cases q : k = kN σ 62 1
    · subst q; exact ⟨g, vu_s _ _ _, hg⟩
    · rw [vu_n _ _ q]; exact w20.2 k hk0 (by omega)
  · rw [n1 2 (by decide)] at ht; have := w31 t ht; show kN σ 31 t < _; omega
  · rw [n1 2 (by decide)] at ht; exact w42 t ht l h
  · rw [n1 2 (by decide)] at ht; rw [n1 0 (by decide)]; exact w43 t ht i h
  · rw [n1 2 (by decide)]; exact w50 l hl t h
theorem tskS_wf (hw : cWF σ) (hn : kN σ 62 2 < 12) {g : Nat} (hg : g < kN σ 62 1) (u : Int32) (t : Int64) (le pe bu sh dl : Int32) : cWF (tskS σ g u t le pe bu sh dl) := by
  obtain ⟨⟨z0, z1, z2, z3, z4⟩, w5, w6, w12, w20, w31, w42, w43, w50⟩ := id hw
  have n0 : kN (tskS σ g u t le pe bu sh dl) 62 2 = kN σ 62 2 + 1 := lGrow_62s (tskN σ g u t le pe bu sh dl) 2
  have n1 : ∀ k, k ≠ 2 → kN (tskS σ g u t le pe bu sh dl) 62 k = kN σ 62 k := fun k hk => vu_n _ _ hk
  refine ⟨⟨by rw [n1 0 (by decide)]; exact z0, by rw [n1 1 (by decide)]; exact z1, by rw [n1 1 (by decide)]; exact z2, by omega, by rw [n1 3 (by decide)]; exact z4⟩, wf_lists hw (by decide) (by omega) rfl rfl, fun l hl => ?_, fun i hi t ht => ?_, ⟨w20.1, fun k hk0 hk => ?_⟩, fun t ht => ?_, fun t ht l h => ?_, fun t ht i h => ?_, fun l hl t h => ?_⟩
  · rw [n1 _ (by omega)]; refine ⟨(w6 l hl).1, fun x hx => ?_⟩; have := (w6 l hl).2 x hx; omega
  · rw [n1 0 (by decide)] at hi; have := w12 i hi t ht; omega
  · rw [n1 1 (by decide)] at hk; exact w20.2 k hk0 hk
  · rw [n1 1 (by decide)]
    show va_up (kN σ 31) (kN σ 62 2) g t < _
    by_cases q : t = kN σ 62 2
    · subst q; rw [vu_s]; exact hg
    · rw [vu_n _ _ q]; exact w31 t (by omega)
  · replace h : va_up (kO σ 42) (kN σ 62 2) none t = some l := h
    by_cases q : t = kN σ 62 2
    · subst q; rw [vu_s] at h; cases h
    · rw [vu_n _ _ q] at h; exact w42 t (by omega) l h
  · rw [n1 0 (by decide)]
    replace h : va_up (kO σ 43) (kN σ 62 2) none t = some i := h
    by_cases q : t = kN σ 62 2
    · subst q; rw [vu_s] at h; cases h
    · rw [vu_n _ _ q] at h; exact w43 t (by omega) i h
  · have := w50 l hl t h; omega
end NEW
section ADDN
variable {l : Launch} {D : va_G} {cs : mC} {df : Nat} {P : Nat → Prop} {h0 hh : mH} {L : KL} {σ : KS}
theorem isEl_s {hh : mH} {q ci : Nat} {fs : List Value} {r : vw_C} (hc : vwCl[ci]? = some r) (hr : r.1 ∈ nwO) : isEl (mu hh q (.inr (ci, fs))) q := ⟨ci, fs, r, mu_s _ _ _, hc, hr⟩
set_option maxHeartbeats 1000000 in
theorem l_addC (sz : Nat) (hC : CRep cs df P h0 L σ hh) (x : Int32) (q : Nat) (hq : hh q = none) (hn : kN σ 62 0 < 3) : Met l yJx4a65c_add_9ea2d wsJx4a65c_add_9ea2d { frames := 6, cells := 1, slots := 200, locals := 170 } (mPre [.ref (L 5 0), .ref q] D cs df (mu hh q (.inr (3, [.int x, .int 0, .null]))) sz) (va_Qi (fun (r : Int32) (h1 : mH) => CRep cs df P h0 (Lnew L 1 (kN σ 62 0) q) (coreS σ x) h1 ∧ r = 1) (mB D (mu hh q (.inr (3, [.int x, .int 0, .null]))) sz) (mA (mu hh q (.inr (3, [.int x, .int 0, .null]))) sz)) 1 200 (mA (mu hh q (.inr (3, [.int x, .int 0, .null]))) sz) := by
  obtain ⟨R, hC⟩ := hC
  have ec : cCell0 (Lnew L 1 (kN σ 62 0) q) (coreN σ x) 1 (kN σ 62 0) = .inr (3, [.int x, .int 0, .null]) := by simp [cCell0, coreN, sI, sO, va_up, kI, kO, va_rf]
  refine m_mono (l_add sz (hC.fresh hq _) 0 q (by decide) (by omega) (isEl_s rfl (by decide))) (m_moni (fun r h1 => ?_))
  rintro ⟨⟨R1, hA⟩, rfl⟩
  rw [← ec] at hA
  refine ⟨CRep.grow (k0 := 1) (τ := coreN σ x) (Or.inl rfl) hC (by show kN σ 62 0 ≤ 12; omega) hq hA rfl rfl rfl rfl (fun k i hk5 ok => ?_) (coreS_wf hC.2.2.2.1 hn x), rfl⟩
  match k, ok with
  | 0, ok => rfl
  | 1, ok =>
    have n : i ≠ kN σ 62 0 := Nat.ne_of_lt ok
    simp only [kN] at n
    simp [cCell0, lGrow, coreN, sI, sO, sN, va_up, kI, kW, kN, kO, kB, n]
  | 2, ok => rfl
  | 3, ok => rfl
  | 4, ok => rfl
  | k + 5, _ => omega
set_option maxHeartbeats 1000000 in
theorem l_addG (sz : Nat) (hC : CRep cs df P h0 L σ hh) (g : Nat) (u : Int32) (t : Int64) (q : Nat) (hq : hh q = none) (hn : kN σ 62 1 < 6) (hg : g < kN σ 62 1) : Met l yJx4a65c_add_9ea2d wsJx4a65c_add_9ea2d { frames := 6, cells := 1, slots := 200, locals := 170 } (mPre [.ref (L 5 1), .ref q] D cs df (mu hh q (.inr (4, [.int (nI (kN σ 62 1)), .ref (L 2 g), .int u, .long t, .int 0, .int 0]))) sz) (va_Qi (fun (r : Int32) (h1 : mH) => CRep cs df P h0 (Lnew L 2 (kN σ 62 1) q) (grpS σ g u t) h1 ∧ r = 1) (mB D (mu hh q (.inr (4, [.int (nI (kN σ 62 1)), .ref (L 2 g), .int u, .long t, .int 0, .int 0]))) sz) (mA (mu hh q (.inr (4, [.int (nI (kN σ 62 1)), .ref (L 2 g), .int u, .long t, .int 0, .int 0]))) sz)) 1 200 (mA (mu hh q (.inr (4, [.int (nI (kN σ 62 1)), .ref (L 2 g), .int u, .long t, .int 0, .int 0]))) sz) := by
  obtain ⟨R, hC⟩ := hC
  have eg : Lnew L 2 (kN σ 62 1) q 2 g = L 2 g := Lnew_i L (Nat.ne_of_lt hg)
  have ec : cCell0 (Lnew L 2 (kN σ 62 1) q) (grpN σ g u t) 2 (kN σ 62 1) = .inr (4, [.int (nI (kN σ 62 1)), .ref (L 2 g), .int u, .long t, .int 0, .int 0]) := by
    have e1 : kO (grpN σ g u t) 20 (kN σ 62 1) = some g := vu_s _ _ _
    have e2 : kI (grpN σ g u t) 22 (kN σ 62 1) = u := vu_s _ _ _
    have e3 : kW (grpN σ g u t) 23 (kN σ 62 1) = t := vu_s _ _ _
    have e4 : kI (grpN σ g u t) 24 (kN σ 62 1) = 0 := vu_s _ _ _
    have e5 : kB (grpN σ g u t) 25 (kN σ 62 1) = false := vu_s _ _ _
    simp only [cCell0, e1, e2, e3, e4, e5, Option.map_some, eg]
    rfl
  refine m_mono (l_add sz (hC.fresh hq _) 1 q (by decide) (by omega) (isEl_s rfl (by decide))) (m_moni (fun r h1 => ?_))
  rintro ⟨⟨R1, hA⟩, rfl⟩
  rw [← ec] at hA
  refine ⟨CRep.grow (k0 := 2) (τ := grpN σ g u t) (Or.inr (Or.inl rfl)) hC (by show kN σ 62 1 ≤ 12; omega) hq hA rfl rfl rfl rfl (fun k i hk5 ok => ?_) (grpS_wf hC.2.2.2.1 hn hg u t), rfl⟩
  match k, ok with
  | 0, ok => rfl
  | 1, ok => rfl
  | 2, ok =>
    have n : i ≠ kN σ 62 1 := Nat.ne_of_lt ok
    simp only [kN] at n
    simp [cCell0, lGrow, grpN, sI, sO, sN, sW, sB, va_up, kI, kW, kN, kO, kB, n]
  | 3, ok => rfl
  | 4, ok => rfl
  | k + 5, _ => omega
set_option maxHeartbeats 1000000 in
theorem l_addT (sz : Nat) (hC : CRep cs df P h0 L σ hh) (g : Nat) (u : Int32) (t : Int64) (le pe bu sh dl : Int32) (q : Nat) (hq : hh q = none) (hn : kN σ 62 2 < 12) (hg : g < kN σ 62 1) {e : va_E} (he : e = .inr (6, [.int (nI (kN σ 62 2)), .ref (L 2 g), .int u, .long t, .int le, .int 0, .int 0, .int pe, .int bu, .int sh, .int dl, .int 0, .null, .null, .int 0, .int 0])) : Met l yJx4a65c_add_9ea2d wsJx4a65c_add_9ea2d { frames := 6, cells := 1, slots := 200, locals := 170 } (mPre [.ref (L 5 2), .ref q] D cs df (mu hh q e) sz) (va_Qi (fun (r : Int32) (h1 : mH) => CRep cs df P h0 (Lnew L 3 (kN σ 62 2) q) (tskS σ g u t le pe bu sh dl) h1 ∧ r = 1) (mB D (mu hh q e) sz) (mA (mu hh q e) sz)) 1 200 (mA (mu hh q e) sz) := by
  obtain ⟨R, hC⟩ := hC
  have eg : Lnew L 3 (kN σ 62 2) q 2 g = L 2 g := Lnew_k L (by decide)
  have ec : cCell0 (Lnew L 3 (kN σ 62 2) q) (tskN σ g u t le pe bu sh dl) 3 (kN σ 62 2) = e := by
    have e1 : kN (tskN σ g u t le pe bu sh dl) 31 (kN σ 62 2) = g := vu_s _ _ _
    have e2 : kI (tskN σ g u t le pe bu sh dl) 32 (kN σ 62 2) = u := vu_s _ _ _
    have e3 : kW (tskN σ g u t le pe bu sh dl) 33 (kN σ 62 2) = t := vu_s _ _ _
    have e4 : kI (tskN σ g u t le pe bu sh dl) 34 (kN σ 62 2) = le := vu_s _ _ _
    have e5 : kI (tskN σ g u t le pe bu sh dl) 35 (kN σ 62 2) = 0 := vu_s _ _ _
    have e6 : kB (tskN σ g u t le pe bu sh dl) 36 (kN σ 62 2) = false := vu_s _ _ _
    have e7 : kI (tskN σ g u t le pe bu sh dl) 37 (kN σ 62 2) = pe := vu_s _ _ _
    have e8 : kI (tskN σ g u t le pe bu sh dl) 38 (kN σ 62 2) = bu := vu_s _ _ _
    have e9 : kI (tskN σ g u t le pe bu sh dl) 39 (kN σ 62 2) = sh := vu_s _ _ _
    have f0 : kI (tskN σ g u t le pe bu sh dl) 40 (kN σ 62 2) = dl := vu_s _ _ _
    have f1 : kI (tskN σ g u t le pe bu sh dl) 41 (kN σ 62 2) = 0 := vu_s _ _ _
    have f2 : kO (tskN σ g u t le pe bu sh dl) 42 (kN σ 62 2) = none := vu_s _ _ _
    have f3 : kO (tskN σ g u t le pe bu sh dl) 43 (kN σ 62 2) = none := vu_s _ _ _
    have f4 : kI (tskN σ g u t le pe bu sh dl) 44 (kN σ 62 2) = 0 := vu_s _ _ _
    have f5 : kB (tskN σ g u t le pe bu sh dl) 45 (kN σ 62 2) = false := vu_s _ _ _
    rw [he]
    simp only [cCell0, e1, e2, e3, e4, e5, e6, e7, e8, e9, f0, f1, f2, f3, f4, f5, Option.map_none, eg]
    rfl
  refine m_mono (l_add sz (hC.fresh hq _) 2 q (by decide) (by omega) (by rw [he]; exact isEl_s rfl (by decide))) (m_moni (fun r h1 => ?_))
  rintro ⟨⟨R1, hA⟩, rfl⟩
  rw [← ec] at hA
  refine ⟨CRep.grow (k0 := 3) (τ := tskN σ g u t le pe bu sh dl) (Or.inr (Or.inr rfl)) hC (by show kN σ 62 2 ≤ 12; omega) hq hA rfl rfl rfl rfl (fun k i hk5 ok => ?_) (tskS_wf hC.2.2.2.1 hn hg u t le pe bu sh dl), rfl⟩
  match k, ok with
  | 0, ok => rfl
  | 1, ok => rfl
  | 2, ok => rfl
  | 3, ok =>
    have n : i ≠ kN σ 62 2 := Nat.ne_of_lt ok
    simp only [kN] at n
    simp [cCell0, lGrow, tskN, sI, sO, sN, sW, sB, va_up, kI, kW, kN, kO, kB, n]
  | 4, ok => rfl
  | k + 5, _ => omega
end ADDN
