/-! THE LAW'S STATE: the component and the reference side by side, and the rows for the answers -/
def fz (B : Nat → Nat) (o1 o2 a : Nat) : Prop := (∃ k, k ∈ dIds ∧ B k = a) ∨ a = o1 ∨ a = o2
def dP (B : Nat → Nat) (h : mH) (a : Nat) : Prop := (∃ k, k ∈ dIds ∧ B k = a) ∨ h a = none
def DSw (cs : mC) (df o1 o2 : Nat) (L : KL) (B : Nat → Nat) (σ μ : KS) (h : mH) : Prop :=
  CRep cs df (fun a => ¬ fz B o1 o2 a) h L σ h ∧ DRep cs (dP B h) h B μ h ∧ (∃ f : Nat → Int64, h o1 = some (.inl (cs.2.1, 1, .inr (.inl f)))) ∧ (∃ f : Nat → UInt64, h o2 = some (.inl (cs.2.2.2.1, 1, .inr (.inr (.inr (.inl f)))))) ∧ o1 ≠ o2 ∧ ∀ k, k ∈ dIds → B k ≠ o1 ∧ B k ≠ o2
def DSt (cs : mC) (df c0 m0 o1 o2 : Nat) (σ μ : KS) (h : mH) : Prop := ∃ (L : KL) (B : Nat → Nat), L 0 0 = c0 ∧ B 100 = m0 ∧ DSw cs df o1 o2 L B σ μ h
theorem CRep.to {cs : mC} {df : Nat} {P P1 : Nat → Prop} {h0 h h1 : mH} {L : KL} {σ : KS} (hC : CRep cs df P h0 L σ h) (hP : ∀ a, P a → ¬ h a = none → h1 a = h a ∧ P1 a) (hn : ∀ a, h1 a = none → P1 a) : CRep cs df P1 h1 L σ h1 := by
  obtain ⟨R, c1, c2, c3, c4⟩ := hC
  refine ⟨R, fun k i ok => ?_, c2, ⟨fun _ _ => rfl, hn⟩, c4⟩
  have z := hP _ (c1 k i ok).2 (by rw [(c1 k i ok).1]; exact nofun)
  exact ⟨z.1.trans (c1 k i ok).1, z.2⟩
theorem DRep.to {cs : mC} {P P1 : Nat → Prop} {h0 h h1 : mH} {B : Nat → Nat} {μ : KS} (hM : DRep cs P h0 B μ h) (hk : ∀ k, k ∈ dIds → h1 (B k) = h (B k) ∧ P1 (B k)) (hn : ∀ a, h1 a = none → P1 a) : DRep cs P1 h1 B μ h1 :=
  ⟨fun k h9 => ⟨(hk k h9).1.trans (hM.1 k h9).1, (hk k h9).2⟩, hM.2.1, ⟨fun _ _ => rfl, hn⟩, hM.2.2.2⟩
section LSS
variable {cs : mC} {df o1 o2 : Nat} {L L1 : KL} {B : Nat → Nat} {σ σ1 μ μ1 : KS} {h h1 h9 : mH}
theorem DSw.n1 (hW : DSw cs df o1 o2 L B σ μ h) : ¬ (fun a => ¬ fz B o1 o2 a) o1 := fun z => z (Or.inr (Or.inl rfl))
theorem DSw.n2 (hW : DSw cs df o1 o2 L B σ μ h) : ¬ (fun a => ¬ fz B o1 o2 a) o2 := fun z => z (Or.inr (Or.inr rfl))
theorem DSw.go (hW : DSw cs df o1 o2 L B σ μ h) (hC : CRep cs df (fun a => ¬ fz B o1 o2 a) h L1 σ1 h9) (e1 : ∃ f : Nat → Int64, h1 o1 = some (.inl (cs.2.1, 1, .inr (.inl f)))) (e2 : ∃ f : Nat → UInt64, h1 o2 = some (.inl (cs.2.2.2.1, 1, .inr (.inr (.inr (.inl f)))))) (he : ∀ a, a ≠ o1 → a ≠ o2 → h1 a = h9 a) : DSw cs df o1 o2 L1 B σ1 μ h1 := by
  have hB : ∀ k, k ∈ dIds → h1 (B k) = h (B k) := fun k hk => (he _ (hW.2.2.2.2.2 k hk).1 (hW.2.2.2.2.2 k hk).2).trans (hC.out (fun z => z (Or.inl ⟨k, hk, rfl⟩)))
  have hn : ∀ a, h1 a = none → ¬ fz B o1 o2 a := by
    intro a ha z
    rcases z with ⟨k, hk, rfl⟩ | rfl | rfl
    · rw [hB k hk, (hW.2.1.1 k hk).1] at ha; cases ha
    · obtain ⟨f, e⟩ := e1; rw [e] at ha; cases ha
    · obtain ⟨f, e⟩ := e2; rw [e] at ha; cases ha
  refine ⟨hC.to (fun a ha _ => ⟨he a (fun z => ha (Or.inr (Or.inl z))) (fun z => ha (Or.inr (Or.inr z))), ha⟩) hn, ?_, e1, e2, hW.2.2.2.2.1, hW.2.2.2.2.2⟩
  exact hW.2.1.to (fun k hk => ⟨hB k hk, Or.inl ⟨k, hk, rfl⟩⟩) (fun a ha => Or.inr ha)
theorem DSw.go1 (hW : DSw cs df o1 o2 L B σ μ h) (hC : CRep cs df (fun a => ¬ fz B o1 o2 a) h L1 σ1 h9) {v : Int64} (e1 : oL cs h1 o1 v) (he : ∀ a, a ≠ o1 → h1 a = h9 a) : DSw cs df o1 o2 L1 B σ1 μ h1 := by
  obtain ⟨f, e, _⟩ := e1
  obtain ⟨g, e2⟩ := hW.2.2.2.1
  exact hW.go hC ⟨f, e⟩ ⟨g, by rw [he o2 (Ne.symm hW.2.2.2.2.1), hC.out hW.n2, e2]⟩ (fun a ha _ => he a ha)
theorem DSw.go2 (hW : DSw cs df o1 o2 L B σ μ h) (hC : CRep cs df (fun a => ¬ fz B o1 o2 a) h L1 σ1 h9) {v : UInt64} (e1 : oD cs h1 o2 v) (he : ∀ a, a ≠ o2 → h1 a = h9 a) : DSw cs df o1 o2 L1 B σ1 μ h1 := by
  obtain ⟨f, e, _⟩ := e1
  obtain ⟨g, e2⟩ := hW.2.2.1
  exact hW.go hC ⟨g, by rw [he o1 hW.2.2.2.2.1, hC.out hW.n1, e2]⟩ ⟨f, e⟩ (fun a _ ha => he a ha)
theorem DSw.go0 (hW : DSw cs df o1 o2 L B σ μ h) (hC : CRep cs df (fun a => ¬ fz B o1 o2 a) h L1 σ1 h1) : DSw cs df o1 o2 L1 B σ1 μ h1 := by
  obtain ⟨f, e1⟩ := hW.2.2.1
  obtain ⟨g, e2⟩ := hW.2.2.2.1
  exact hW.go hC ⟨f, by rw [hC.out hW.n1, e1]⟩ ⟨g, by rw [hC.out hW.n2, e2]⟩ (fun _ _ _ => rfl)
theorem DSw.ref (hW : DSw cs df o1 o2 L B σ μ h) (hM : DRep cs (dP B h) h B μ1 h1) : DSw cs df o1 o2 L B σ μ1 h1 ∧ h1 o1 = h o1 ∧ h1 o2 = h o2 := by
  have ho : ∀ a, ¬ (∃ k, k ∈ dIds ∧ B k = a) → ¬ h a = none → h1 a = h a := fun a h1' h2 => hM.out (fun z => z.elim h1' h2)
  have q1 : h1 o1 = h o1 := ho o1 (fun ⟨k, hk, z⟩ => (hW.2.2.2.2.2 k hk).1 z) (by obtain ⟨f, e⟩ := hW.2.2.1; rw [e]; exact nofun)
  have q2 : h1 o2 = h o2 := ho o2 (fun ⟨k, hk, z⟩ => (hW.2.2.2.2.2 k hk).2 z) (by obtain ⟨f, e⟩ := hW.2.2.2.1; rw [e]; exact nofun)
  refine ⟨⟨?_, ?_, by rw [q1]; exact hW.2.2.1, by rw [q2]; exact hW.2.2.2.1, hW.2.2.2.2.1, hW.2.2.2.2.2⟩, q1, q2⟩
  · refine hW.1.to (fun a ha hb => ⟨ho a (fun z => ha (Or.inl z)) hb, ha⟩) (fun a ha z => ?_)
    rcases z with ⟨k, hk, rfl⟩ | rfl | rfl
    · rw [(hM.1 k hk).1] at ha; cases ha
    · obtain ⟨f, e⟩ := hW.2.2.1; rw [q1, e] at ha; cases ha
    · obtain ⟨f, e⟩ := hW.2.2.2.1; rw [q2, e] at ha; cases ha
  · exact hM.to (fun k hk => ⟨rfl, Or.inl ⟨k, hk, rfl⟩⟩) (fun a ha => Or.inr ha)
end LSS

set_option maxRecDepth 100000 in
theorem w_L_addCore {l : Launch} (hfl : l.stackTraces = false) {D : va_G} {cs : mC} {df c0 m0 o1 o2 : Nat} {σ μ : KS} {hh : mH} (sz : Nat) (hS : DSt cs df c0 m0 o1 o2 σ μ hh) (x0 : Int32) : Met l yL_addCore (wsL_addCore ++ lxW) ({ frames := 8, cells := 2, slots := 203, locals := 213 }) (lPre [.ref c0, .int x0, .ref o1] D cs df hh sz) (va_Qi (fun (r : Int32) (h1 : mH) => ∃ (σ1 : KS) (v : Int64), DSt cs df c0 m0 o1 o2 σ1 μ h1 ∧ (r = 0 → oL cs h1 o1 v) ∧ oc_addCore σ x0 r v σ1) (mB D hh sz) (mA hh sz)) 2 203 (mA hh sz) := by
  obtain ⟨L, B, rfl, hB, hW⟩ := hS
  obtain ⟨f, ho⟩ := hW.2.2.1
  refine m_mono (c_L_addCore hfl sz hW.1 o1 f ho hW.n1 x0) (m_moni (fun r h1 p => ?_))
  rcases p with ⟨r0, v, h9, p, q1, q2⟩ | ⟨r0, p⟩ | ⟨r0, p⟩
  · obtain ⟨p1, p2, ⟨L1, hL1, hC1⟩, rfl⟩ := p
    exact ⟨_, _, ⟨L1, B, hL1, hB, hW.go1 hC1 q1 q2⟩, fun _ => q1, Or.inl (⟨r0, ⟨p1, p2⟩, rfl, rfl⟩)⟩
  · obtain ⟨e9, p⟩ := p
    rcases p with ⟨e8, p⟩ | ⟨e8, p⟩
    · exact ⟨σ, 0, ⟨L, B, rfl, hB, by rw [e9]; exact hW⟩, fun z => absurd (r0.symm.trans z) (by decide), Or.inr (Or.inl (⟨r0, p, rfl⟩))⟩
    · exact absurd e8 (by decide)
  · obtain ⟨e9, p⟩ := p
    rcases p with ⟨e8, p⟩ | ⟨e8, p⟩
    · exact absurd e8 (by decide)
    · exact ⟨σ, 0, ⟨L, B, rfl, hB, by rw [e9]; exact hW⟩, fun z => absurd (r0.symm.trans z) (by decide), Or.inr (Or.inr (⟨r0, p, rfl⟩))⟩
set_option maxRecDepth 100000 in
theorem w_L_setLimit {l : Launch} (hfl : l.stackTraces = false) {D : va_G} {cs : mC} {df c0 m0 o1 o2 : Nat} {σ μ : KS} {hh : mH} (sz : Nat) (hS : DSt cs df c0 m0 o1 o2 σ μ hh) (x0 : Int32) : Met l yL_setLimit (wsL_setLimit ++ lxW) ({ frames := 7, cells := 1, slots := 6, locals := 112 }) (lPre [.ref c0, .int x0, .ref o1] D cs df hh sz) (va_Qi (fun (r : Int32) (h1 : mH) => ∃ (σ1 : KS) (v : Int64), DSt cs df c0 m0 o1 o2 σ1 μ h1 ∧ (r = 0 → oL cs h1 o1 v) ∧ oc_setLimit σ x0 r v σ1) (mB D hh sz) (mA hh sz)) 1 6 (mA hh sz) := by
  obtain ⟨L, B, rfl, hB, hW⟩ := hS
  obtain ⟨f, ho⟩ := hW.2.2.1
  refine m_mono (c_L_setLimit hfl sz hW.1 o1 f ho hW.n1 x0) (m_moni (fun r h1 p => ?_))
  rcases p with ⟨r0, v, h9, p, q1, q2⟩ | ⟨r0, p⟩
  · obtain ⟨hC1, rfl, p1, p2⟩ := p
    exact ⟨_, _, ⟨L, B, rfl, hB, hW.go1 hC1 q1 q2⟩, fun _ => q1, Or.inl (⟨r0, ⟨p1, p2⟩, rfl, rfl⟩)⟩
  · obtain ⟨_, e9, p⟩ := p
    exact ⟨σ, 0, ⟨L, B, rfl, hB, by rw [e9]; exact hW⟩, fun z => absurd (r0.symm.trans z) (by decide), Or.inr (⟨r0, p, rfl⟩)⟩
set_option maxRecDepth 100000 in
theorem w_L_setCap {l : Launch} (hfl : l.stackTraces = false) {D : va_G} {cs : mC} {df c0 m0 o1 o2 : Nat} {σ μ : KS} {hh : mH} (sz : Nat) (hS : DSt cs df c0 m0 o1 o2 σ μ hh) (x0 : Int32) : Met l yL_setCap (wsL_setCap ++ lxW) ({ frames := 7, cells := 1, slots := 6, locals := 112 }) (lPre [.ref c0, .int x0, .ref o1] D cs df hh sz) (va_Qi (fun (r : Int32) (h1 : mH) => ∃ (σ1 : KS) (v : Int64), DSt cs df c0 m0 o1 o2 σ1 μ h1 ∧ (r = 0 → oL cs h1 o1 v) ∧ oc_setCap σ x0 r v σ1) (mB D hh sz) (mA hh sz)) 1 6 (mA hh sz) := by
  obtain ⟨L, B, rfl, hB, hW⟩ := hS
  obtain ⟨f, ho⟩ := hW.2.2.1
  refine m_mono (c_L_setCap hfl sz hW.1 o1 f ho hW.n1 x0) (m_moni (fun r h1 p => ?_))
  rcases p with ⟨r0, v, h9, p, q1, q2⟩ | ⟨r0, p⟩
  · obtain ⟨hC1, rfl, p1, p2⟩ := p
    exact ⟨_, _, ⟨L, B, rfl, hB, hW.go1 hC1 q1 q2⟩, fun _ => q1, Or.inl (⟨r0, ⟨p1, p2⟩, rfl, rfl⟩)⟩
  · obtain ⟨_, e9, p⟩ := p
    exact ⟨σ, 0, ⟨L, B, rfl, hB, by rw [e9]; exact hW⟩, fun z => absurd (r0.symm.trans z) (by decide), Or.inr (⟨r0, p, rfl⟩)⟩
set_option maxRecDepth 100000 in
theorem w_L_heat {l : Launch} (hfl : l.stackTraces = false) {D : va_G} {cs : mC} {df c0 m0 o1 o2 : Nat} {σ μ : KS} {hh : mH} (sz : Nat) (hS : DSt cs df c0 m0 o1 o2 σ μ hh) (x0 : Int32) : Met l yL_heat (wsL_heat ++ lxW) ({ frames := 7, cells := 1, slots := 6, locals := 112 }) (lPre [.ref c0, .int x0, .ref o1] D cs df hh sz) (va_Qi (fun (r : Int32) (h1 : mH) => ∃ (σ1 : KS) (v : Int64), DSt cs df c0 m0 o1 o2 σ1 μ h1 ∧ (r = 0 → oL cs h1 o1 v) ∧ oc_heat σ x0 r v σ1) (mB D hh sz) (mA hh sz)) 1 6 (mA hh sz) := by
  obtain ⟨L, B, rfl, hB, hW⟩ := hS
  obtain ⟨f, ho⟩ := hW.2.2.1
  refine m_mono (c_L_heat hfl sz hW.1 o1 f ho hW.n1 x0) (m_moni (fun r h1 p => ?_))
  rcases p with ⟨r0, v, h9, p, q1, q2⟩ | ⟨r0, p⟩
  · obtain ⟨t, p1, e9, rfl⟩ := p
    subst e9
    exact ⟨_, _, ⟨L, B, rfl, hB, hW.go1 hW.1 q1 q2⟩, fun _ => q1, Or.inl (⟨t, r0, p1, rfl, rfl⟩)⟩
  · obtain ⟨_, e9, p⟩ := p
    exact ⟨σ, 0, ⟨L, B, rfl, hB, by rw [e9]; exact hW⟩, fun z => absurd (r0.symm.trans z) (by decide), Or.inr (⟨r0, p, rfl⟩)⟩
set_option maxRecDepth 100000 in
theorem w_L_pace {l : Launch} (hfl : l.stackTraces = false) {D : va_G} {cs : mC} {df c0 m0 o1 o2 : Nat} {σ μ : KS} {hh : mH} (sz : Nat) (hS : DSt cs df c0 m0 o1 o2 σ μ hh) (x0 : Int32) : Met l yL_pace (wsL_pace ++ lxW) ({ frames := 7, cells := 1, slots := 6, locals := 112 }) (lPre [.ref c0, .int x0, .ref o1] D cs df hh sz) (va_Qi (fun (r : Int32) (h1 : mH) => ∃ (σ1 : KS) (v : Int64), DSt cs df c0 m0 o1 o2 σ1 μ h1 ∧ (r = 0 → oL cs h1 o1 v) ∧ oc_pace σ x0 r v σ1) (mB D hh sz) (mA hh sz)) 1 6 (mA hh sz) := by
  obtain ⟨L, B, rfl, hB, hW⟩ := hS
  obtain ⟨f, ho⟩ := hW.2.2.1
  refine m_mono (c_L_pace hfl sz hW.1 o1 f ho hW.n1 x0) (m_moni (fun r h1 p => ?_))
  rcases p with ⟨r0, v, h9, p, q1, q2⟩ | ⟨r0, p⟩
  · obtain ⟨t, p1, e9, rfl⟩ := p
    subst e9
    exact ⟨_, _, ⟨L, B, rfl, hB, hW.go1 hW.1 q1 q2⟩, fun _ => q1, Or.inl (⟨t, r0, p1, rfl, rfl⟩)⟩
  · obtain ⟨_, e9, p⟩ := p
    exact ⟨σ, 0, ⟨L, B, rfl, hB, by rw [e9]; exact hW⟩, fun z => absurd (r0.symm.trans z) (by decide), Or.inr (⟨r0, p, rfl⟩)⟩
set_option maxRecDepth 100000 in
theorem w_L_addGroup {l : Launch} (hfl : l.stackTraces = false) {D : va_G} {cs : mC} {df c0 m0 o1 o2 : Nat} {σ μ : KS} {hh : mH} (sz : Nat) (hS : DSt cs df c0 m0 o1 o2 σ μ hh) (x0 : Int32) (x1 : Int32) : Met l yL_addGroup (wsL_addGroup ++ lxW) ({ frames := 8, cells := 2, slots := 206, locals := 215 }) (lPre [.ref c0, .int x0, .int x1, .ref o1] D cs df hh sz) (va_Qi (fun (r : Int32) (h1 : mH) => ∃ (σ1 : KS) (v : Int64), DSt cs df c0 m0 o1 o2 σ1 μ h1 ∧ (r = 0 → oL cs h1 o1 v) ∧ oc_addGroup σ x0 x1 r v σ1) (mB D hh sz) (mA hh sz)) 2 206 (mA hh sz) := by
  obtain ⟨L, B, rfl, hB, hW⟩ := hS
  obtain ⟨f, ho⟩ := hW.2.2.1
  refine m_mono (c_L_addGroup hfl sz hW.1 o1 f ho hW.n1 x0 x1) (m_moni (fun r h1 p => ?_))
  rcases p with ⟨r0, v, h9, p, q1, q2⟩ | ⟨r0, p⟩ | ⟨r0, p⟩ | ⟨r0, p⟩
  · obtain ⟨g, p1, p2, p3, ⟨L1, hL1, hC1⟩, rfl⟩ := p
    exact ⟨_, _, ⟨L1, B, hL1, hB, hW.go1 hC1 q1 q2⟩, fun _ => q1, Or.inl (⟨g, r0, ⟨p1, p2, p3⟩, rfl, rfl⟩)⟩
  · obtain ⟨e9, p⟩ := p
    rcases p with ⟨e8, p⟩ | ⟨e8, p⟩ | ⟨e8, p⟩
    · exact ⟨σ, 0, ⟨L, B, rfl, hB, by rw [e9]; exact hW⟩, fun z => absurd (r0.symm.trans z) (by decide), Or.inr (Or.inl (⟨r0, p, rfl⟩))⟩
    · exact absurd e8 (by decide)
    · exact absurd e8 (by decide)
  · obtain ⟨e9, p⟩ := p
    rcases p with ⟨e8, p⟩ | ⟨e8, p⟩ | ⟨e8, p⟩
    · exact absurd e8 (by decide)
    · exact ⟨σ, 0, ⟨L, B, rfl, hB, by rw [e9]; exact hW⟩, fun z => absurd (r0.symm.trans z) (by decide), Or.inr (Or.inr (Or.inl (⟨r0, p, rfl⟩)))⟩
    · exact absurd e8 (by decide)
  · obtain ⟨e9, p⟩ := p
    rcases p with ⟨e8, p⟩ | ⟨e8, p⟩ | ⟨e8, p⟩
    · exact absurd e8 (by decide)
    · exact absurd e8 (by decide)
    · exact ⟨σ, 0, ⟨L, B, rfl, hB, by rw [e9]; exact hW⟩, fun z => absurd (r0.symm.trans z) (by decide), Or.inr (Or.inr (Or.inr (⟨r0, p, rfl⟩)))⟩
set_option maxRecDepth 100000 in
theorem w_L_addPlain {l : Launch} (hfl : l.stackTraces = false) {D : va_G} {cs : mC} {df c0 m0 o1 o2 : Nat} {σ μ : KS} {hh : mH} (sz : Nat) (hS : DSt cs df c0 m0 o1 o2 σ μ hh) (x0 : Int32) (x1 : Int32) (x2 : Int32) : Met l yL_addPlain (wsL_addPlain ++ lxW) ({ frames := 8, cells := 2, slots := 216, locals := 216 }) (lPre [.ref c0, .int x0, .int x1, .int x2, .ref o1] D cs df hh sz) (va_Qi (fun (r : Int32) (h1 : mH) => ∃ (σ1 : KS) (v : Int64), DSt cs df c0 m0 o1 o2 σ1 μ h1 ∧ (r = 0 → oL cs h1 o1 v) ∧ oc_addPlain σ x0 x1 x2 r v σ1) (mB D hh sz) (mA hh sz)) 2 216 (mA hh sz) := by
  obtain ⟨L, B, rfl, hB, hW⟩ := hS
  obtain ⟨f, ho⟩ := hW.2.2.1
  refine m_mono (c_L_addPlain hfl sz hW.1 o1 f ho hW.n1 x0 x1 x2) (m_moni (fun r h1 p => ?_))
  rcases p with ⟨r0, v, h9, p, q1, q2⟩ | ⟨r0, p⟩ | ⟨r0, p⟩ | ⟨r0, p⟩
  · obtain ⟨g, p1, p2, p3, ⟨L1, hL1, hC1⟩, rfl⟩ := p
    exact ⟨_, _, ⟨L1, B, hL1, hB, hW.go1 hC1 q1 q2⟩, fun _ => q1, Or.inl (⟨g, r0, ⟨p1, p2, p3⟩, rfl, rfl⟩)⟩
  · obtain ⟨e9, p⟩ := p
    rcases p with ⟨e8, p⟩ | ⟨e8, p⟩ | ⟨e8, p⟩
    · exact ⟨σ, 0, ⟨L, B, rfl, hB, by rw [e9]; exact hW⟩, fun z => absurd (r0.symm.trans z) (by decide), Or.inr (Or.inl (⟨r0, p, rfl⟩))⟩
    · exact absurd e8 (by decide)
    · exact absurd e8 (by decide)
  · obtain ⟨e9, p⟩ := p
    rcases p with ⟨e8, p⟩ | ⟨e8, p⟩ | ⟨e8, p⟩
    · exact absurd e8 (by decide)
    · exact ⟨σ, 0, ⟨L, B, rfl, hB, by rw [e9]; exact hW⟩, fun z => absurd (r0.symm.trans z) (by decide), Or.inr (Or.inr (Or.inl (⟨r0, p, rfl⟩)))⟩
    · exact absurd e8 (by decide)
  · obtain ⟨e9, p⟩ := p
    rcases p with ⟨e8, p⟩ | ⟨e8, p⟩ | ⟨e8, p⟩
    · exact absurd e8 (by decide)
    · exact absurd e8 (by decide)
    · exact ⟨σ, 0, ⟨L, B, rfl, hB, by rw [e9]; exact hW⟩, fun z => absurd (r0.symm.trans z) (by decide), Or.inr (Or.inr (Or.inr (⟨r0, p, rfl⟩)))⟩
set_option maxRecDepth 100000 in
theorem w_L_addTimed {l : Launch} (hfl : l.stackTraces = false) {D : va_G} {cs : mC} {df c0 m0 o1 o2 : Nat} {σ μ : KS} {hh : mH} (sz : Nat) (hS : DSt cs df c0 m0 o1 o2 σ μ hh) (x0 : Int32) (x1 : Int32) (x2 : Int32) (x3 : Int32) : Met l yL_addTimed (wsL_addTimed ++ lxW) ({ frames := 8, cells := 2, slots := 216, locals := 219 }) (lPre [.ref c0, .int x0, .int x1, .int x2, .int x3, .ref o1] D cs df hh sz) (va_Qi (fun (r : Int32) (h1 : mH) => ∃ (σ1 : KS) (v : Int64), DSt cs df c0 m0 o1 o2 σ1 μ h1 ∧ (r = 0 → oL cs h1 o1 v) ∧ oc_addTimed σ x0 x1 x2 x3 r v σ1) (mB D hh sz) (mA hh sz)) 2 216 (mA hh sz) := by
  obtain ⟨L, B, rfl, hB, hW⟩ := hS
  obtain ⟨f, ho⟩ := hW.2.2.1
  refine m_mono (c_L_addTimed hfl sz hW.1 o1 f ho hW.n1 x0 x1 x2 x3) (m_moni (fun r h1 p => ?_))
  rcases p with ⟨r0, v, h9, p, q1, q2⟩ | ⟨r0, p⟩ | ⟨r0, p⟩ | ⟨r0, p⟩ | ⟨r0, p⟩
  · obtain ⟨g, p1, p2, p3, p4, ⟨L1, hL1, hC1⟩, rfl⟩ := p
    exact ⟨_, _, ⟨L1, B, hL1, hB, hW.go1 hC1 q1 q2⟩, fun _ => q1, Or.inl (⟨g, r0, ⟨p1, p2, p3, p4⟩, rfl, rfl⟩)⟩
  · obtain ⟨e9, p⟩ := p
    rcases p with ⟨e8, p⟩ | ⟨e8, p⟩ | ⟨e8, p⟩ | ⟨e8, p⟩
    · exact ⟨σ, 0, ⟨L, B, rfl, hB, by rw [e9]; exact hW⟩, fun z => absurd (r0.symm.trans z) (by decide), Or.inr (Or.inl (⟨r0, p, rfl⟩))⟩
    · exact absurd e8 (by decide)
    · exact absurd e8 (by decide)
    · exact absurd e8 (by decide)
  · obtain ⟨e9, p⟩ := p
    rcases p with ⟨e8, p⟩ | ⟨e8, p⟩ | ⟨e8, p⟩ | ⟨e8, p⟩
    · exact absurd e8 (by decide)
    · exact ⟨σ, 0, ⟨L, B, rfl, hB, by rw [e9]; exact hW⟩, fun z => absurd (r0.symm.trans z) (by decide), Or.inr (Or.inr (Or.inl (⟨r0, p, rfl⟩)))⟩
    · exact absurd e8 (by decide)
    · exact absurd e8 (by decide)
  · obtain ⟨e9, p⟩ := p
    rcases p with ⟨e8, p⟩ | ⟨e8, p⟩ | ⟨e8, p⟩ | ⟨e8, p⟩
    · exact absurd e8 (by decide)
    · exact absurd e8 (by decide)
    · exact ⟨σ, 0, ⟨L, B, rfl, hB, by rw [e9]; exact hW⟩, fun z => absurd (r0.symm.trans z) (by decide), Or.inr (Or.inr (Or.inr (Or.inl (⟨r0, p, rfl⟩))))⟩
    · exact absurd e8 (by decide)
  · obtain ⟨e9, p⟩ := p
    rcases p with ⟨e8, p⟩ | ⟨e8, p⟩ | ⟨e8, p⟩ | ⟨e8, p⟩
    · exact absurd e8 (by decide)
    · exact absurd e8 (by decide)
    · exact absurd e8 (by decide)
    · exact ⟨σ, 0, ⟨L, B, rfl, hB, by rw [e9]; exact hW⟩, fun z => absurd (r0.symm.trans z) (by decide), Or.inr (Or.inr (Or.inr (Or.inr (⟨r0, p, rfl⟩))))⟩
set_option maxRecDepth 100000 in
theorem w_L_end {l : Launch} (hfl : l.stackTraces = false) {D : va_G} {cs : mC} {df c0 m0 o1 o2 : Nat} {σ μ : KS} {hh : mH} (sz : Nat) (hS : DSt cs df c0 m0 o1 o2 σ μ hh) (x0 : Int32) : Met l yL_end (wsL_end ++ lxW) ({ frames := 7, cells := 1, slots := 6, locals := 153 }) (lPre [.ref c0, .int x0, .ref o1] D cs df hh sz) (va_Qi (fun (r : Int32) (h1 : mH) => ∃ (σ1 : KS) (v : Int64), DSt cs df c0 m0 o1 o2 σ1 μ h1 ∧ (r = 0 → oL cs h1 o1 v) ∧ oc_end σ x0 r v σ1) (mB D hh sz) (mA hh sz)) 1 6 (mA hh sz) := by
  obtain ⟨L, B, rfl, hB, hW⟩ := hS
  obtain ⟨f, ho⟩ := hW.2.2.1
  refine m_mono (c_L_end hfl sz hW.1 o1 f ho hW.n1 x0) (m_moni (fun r h1 p => ?_))
  rcases p with ⟨r0, v, h9, p, q1, q2⟩ | ⟨r0, p⟩ | ⟨r0, p⟩
  · obtain ⟨t, p1, p2, hC1, rfl⟩ := p
    exact ⟨_, _, ⟨L, B, rfl, hB, hW.go1 hC1 q1 q2⟩, fun _ => q1, Or.inl (⟨t, r0, ⟨p1, p2⟩, rfl, rfl⟩)⟩
  · obtain ⟨e9, p⟩ := p
    rcases p with ⟨e8, p⟩ | ⟨e8, p⟩
    · exact ⟨σ, 0, ⟨L, B, rfl, hB, by rw [e9]; exact hW⟩, fun z => absurd (r0.symm.trans z) (by decide), Or.inr (Or.inl (⟨r0, p, rfl⟩))⟩
    · exact absurd e8 (by decide)
  · obtain ⟨e9, p⟩ := p
    rcases p with ⟨e8, p⟩ | ⟨e8, p⟩
    · exact absurd e8 (by decide)
    · exact ⟨σ, 0, ⟨L, B, rfl, hB, by rw [e9]; exact hW⟩, fun z => absurd (r0.symm.trans z) (by decide), Or.inr (Or.inr (⟨r0, p, rfl⟩))⟩
set_option maxRecDepth 100000 in
theorem w_L_left {l : Launch} (hfl : l.stackTraces = false) {D : va_G} {cs : mC} {df c0 m0 o1 o2 : Nat} {σ μ : KS} {hh : mH} (sz : Nat) (hS : DSt cs df c0 m0 o1 o2 σ μ hh) (x0 : Int32) : Met l yL_left (wsL_left ++ lxW) ({ frames := 7, cells := 1, slots := 6, locals := 112 }) (lPre [.ref c0, .int x0, .ref o1] D cs df hh sz) (va_Qi (fun (r : Int32) (h1 : mH) => ∃ (σ1 : KS) (v : Int64), DSt cs df c0 m0 o1 o2 σ1 μ h1 ∧ (r = 0 → oL cs h1 o1 v) ∧ oc_left σ x0 r v σ1) (mB D hh sz) (mA hh sz)) 1 6 (mA hh sz) := by
  obtain ⟨L, B, rfl, hB, hW⟩ := hS
  obtain ⟨f, ho⟩ := hW.2.2.1
  refine m_mono (c_L_left hfl sz hW.1 o1 f ho hW.n1 x0) (m_moni (fun r h1 p => ?_))
  rcases p with ⟨r0, v, h9, p, q1, q2⟩ | ⟨r0, p⟩
  · obtain ⟨t, p1, e9, rfl⟩ := p
    subst e9
    exact ⟨_, _, ⟨L, B, rfl, hB, hW.go1 hW.1 q1 q2⟩, fun _ => q1, Or.inl (⟨t, r0, p1, rfl, rfl⟩)⟩
  · obtain ⟨_, e9, p⟩ := p
    exact ⟨σ, 0, ⟨L, B, rfl, hB, by rw [e9]; exact hW⟩, fun z => absurd (r0.symm.trans z) (by decide), Or.inr (⟨r0, p, rfl⟩)⟩
set_option maxRecDepth 100000 in
theorem w_L_stateOf {l : Launch} (hfl : l.stackTraces = false) {D : va_G} {cs : mC} {df c0 m0 o1 o2 : Nat} {σ μ : KS} {hh : mH} (sz : Nat) (hS : DSt cs df c0 m0 o1 o2 σ μ hh) (x0 : Int32) : Met l yL_stateOf (wsL_stateOf ++ lxW) ({ frames := 7, cells := 1, slots := 6, locals := 112 }) (lPre [.ref c0, .int x0, .ref o1] D cs df hh sz) (va_Qi (fun (r : Int32) (h1 : mH) => ∃ (σ1 : KS) (v : Int64), DSt cs df c0 m0 o1 o2 σ1 μ h1 ∧ (r = 0 → oL cs h1 o1 v) ∧ oc_stateOf σ x0 r v σ1) (mB D hh sz) (mA hh sz)) 1 6 (mA hh sz) := by
  obtain ⟨L, B, rfl, hB, hW⟩ := hS
  obtain ⟨f, ho⟩ := hW.2.2.1
  refine m_mono (c_L_stateOf hfl sz hW.1 o1 f ho hW.n1 x0) (m_moni (fun r h1 p => ?_))
  rcases p with ⟨r0, v, h9, p, q1, q2⟩ | ⟨r0, p⟩
  · obtain ⟨t, p1, e9, rfl⟩ := p
    subst e9
    exact ⟨_, _, ⟨L, B, rfl, hB, hW.go1 hW.1 q1 q2⟩, fun _ => q1, Or.inl (⟨t, r0, p1, rfl, rfl⟩)⟩
  · obtain ⟨_, e9, p⟩ := p
    exact ⟨σ, 0, ⟨L, B, rfl, hB, by rw [e9]; exact hW⟩, fun z => absurd (r0.symm.trans z) (by decide), Or.inr (⟨r0, p, rfl⟩)⟩
set_option maxRecDepth 100000 in
theorem w_L_timeOf {l : Launch} (hfl : l.stackTraces = false) {D : va_G} {cs : mC} {df c0 m0 o1 o2 : Nat} {σ μ : KS} {hh : mH} (sz : Nat) (hS : DSt cs df c0 m0 o1 o2 σ μ hh) (x0 : Int32) : Met l yL_timeOf (wsL_timeOf ++ lxW) ({ frames := 7, cells := 1, slots := 6, locals := 112 }) (lPre [.ref c0, .int x0, .ref o1] D cs df hh sz) (va_Qi (fun (r : Int32) (h1 : mH) => ∃ (σ1 : KS) (v : Int64), DSt cs df c0 m0 o1 o2 σ1 μ h1 ∧ (r = 0 → oL cs h1 o1 v) ∧ oc_timeOf σ x0 r v σ1) (mB D hh sz) (mA hh sz)) 1 6 (mA hh sz) := by
  obtain ⟨L, B, rfl, hB, hW⟩ := hS
  obtain ⟨f, ho⟩ := hW.2.2.1
  refine m_mono (c_L_timeOf hfl sz hW.1 o1 f ho hW.n1 x0) (m_moni (fun r h1 p => ?_))
  rcases p with ⟨r0, v, h9, p, q1, q2⟩ | ⟨r0, p⟩
  · obtain ⟨t, p1, e9, rfl⟩ := p
    subst e9
    exact ⟨_, _, ⟨L, B, rfl, hB, hW.go1 hW.1 q1 q2⟩, fun _ => q1, Or.inl (⟨t, r0, p1, rfl, rfl⟩)⟩
  · obtain ⟨_, e9, p⟩ := p
    exact ⟨σ, 0, ⟨L, B, rfl, hB, by rw [e9]; exact hW⟩, fun z => absurd (r0.symm.trans z) (by decide), Or.inr (⟨r0, p, rfl⟩)⟩
set_option maxRecDepth 100000 in
theorem w_L_timeOfGroup {l : Launch} (hfl : l.stackTraces = false) {D : va_G} {cs : mC} {df c0 m0 o1 o2 : Nat} {σ μ : KS} {hh : mH} (sz : Nat) (hS : DSt cs df c0 m0 o1 o2 σ μ hh) (x0 : Int32) : Met l yL_timeOfGroup (wsL_timeOfGroup ++ lxW) ({ frames := 7, cells := 1, slots := 6, locals := 112 }) (lPre [.ref c0, .int x0, .ref o1] D cs df hh sz) (va_Qi (fun (r : Int32) (h1 : mH) => ∃ (σ1 : KS) (v : Int64), DSt cs df c0 m0 o1 o2 σ1 μ h1 ∧ (r = 0 → oL cs h1 o1 v) ∧ oc_timeOfGroup σ x0 r v σ1) (mB D hh sz) (mA hh sz)) 1 6 (mA hh sz) := by
  obtain ⟨L, B, rfl, hB, hW⟩ := hS
  obtain ⟨f, ho⟩ := hW.2.2.1
  refine m_mono (c_L_timeOfGroup hfl sz hW.1 o1 f ho hW.n1 x0) (m_moni (fun r h1 p => ?_))
  rcases p with ⟨r0, v, h9, p, q1, q2⟩ | ⟨r0, p⟩
  · obtain ⟨t, p1, p2, e9, rfl⟩ := p
    subst e9
    exact ⟨_, _, ⟨L, B, rfl, hB, hW.go1 hW.1 q1 q2⟩, fun _ => q1, Or.inl (⟨t, r0, ⟨p1, p2⟩, rfl, rfl⟩)⟩
  · obtain ⟨_, e9, p⟩ := p
    exact ⟨σ, 0, ⟨L, B, rfl, hB, by rw [e9]; exact hW⟩, fun z => absurd (r0.symm.trans z) (by decide), Or.inr (⟨r0, p, rfl⟩)⟩
set_option maxRecDepth 100000 in
theorem w_L_doneBy {l : Launch} (hfl : l.stackTraces = false) {D : va_G} {cs : mC} {df c0 m0 o1 o2 : Nat} {σ μ : KS} {hh : mH} (sz : Nat) (hS : DSt cs df c0 m0 o1 o2 σ μ hh) (x0 : Int32) : Met l yL_doneBy (wsL_doneBy ++ lxW) ({ frames := 7, cells := 1, slots := 6, locals := 112 }) (lPre [.ref c0, .int x0, .ref o1] D cs df hh sz) (va_Qi (fun (r : Int32) (h1 : mH) => ∃ (σ1 : KS) (v : Int64), DSt cs df c0 m0 o1 o2 σ1 μ h1 ∧ (r = 0 → oL cs h1 o1 v) ∧ oc_doneBy σ x0 r v σ1) (mB D hh sz) (mA hh sz)) 1 6 (mA hh sz) := by
  obtain ⟨L, B, rfl, hB, hW⟩ := hS
  obtain ⟨f, ho⟩ := hW.2.2.1
  refine m_mono (c_L_doneBy hfl sz hW.1 o1 f ho hW.n1 x0) (m_moni (fun r h1 p => ?_))
  rcases p with ⟨r0, v, h9, p, q1, q2⟩ | ⟨r0, p⟩
  · obtain ⟨t, p1, e9, rfl⟩ := p
    subst e9
    exact ⟨_, _, ⟨L, B, rfl, hB, hW.go1 hW.1 q1 q2⟩, fun _ => q1, Or.inl (⟨t, r0, p1, rfl, rfl⟩)⟩
  · obtain ⟨_, e9, p⟩ := p
    exact ⟨σ, 0, ⟨L, B, rfl, hB, by rw [e9]; exact hW⟩, fun z => absurd (r0.symm.trans z) (by decide), Or.inr (⟨r0, p, rfl⟩)⟩
set_option maxRecDepth 100000 in
theorem w_L_doneIn {l : Launch} (hfl : l.stackTraces = false) {D : va_G} {cs : mC} {df c0 m0 o1 o2 : Nat} {σ μ : KS} {hh : mH} (sz : Nat) (hS : DSt cs df c0 m0 o1 o2 σ μ hh) (x0 : Int32) : Met l yL_doneIn (wsL_doneIn ++ lxW) ({ frames := 7, cells := 1, slots := 6, locals := 112 }) (lPre [.ref c0, .int x0, .ref o1] D cs df hh sz) (va_Qi (fun (r : Int32) (h1 : mH) => ∃ (σ1 : KS) (v : Int64), DSt cs df c0 m0 o1 o2 σ1 μ h1 ∧ (r = 0 → oL cs h1 o1 v) ∧ oc_doneIn σ x0 r v σ1) (mB D hh sz) (mA hh sz)) 1 6 (mA hh sz) := by
  obtain ⟨L, B, rfl, hB, hW⟩ := hS
  obtain ⟨f, ho⟩ := hW.2.2.1
  refine m_mono (c_L_doneIn hfl sz hW.1 o1 f ho hW.n1 x0) (m_moni (fun r h1 p => ?_))
  rcases p with ⟨r0, v, h9, p, q1, q2⟩ | ⟨r0, p⟩
  · obtain ⟨t, p1, e9, rfl⟩ := p
    subst e9
    exact ⟨_, _, ⟨L, B, rfl, hB, hW.go1 hW.1 q1 q2⟩, fun _ => q1, Or.inl (⟨t, r0, p1, rfl, rfl⟩)⟩
  · obtain ⟨_, e9, p⟩ := p
    exact ⟨σ, 0, ⟨L, B, rfl, hB, by rw [e9]; exact hW⟩, fun z => absurd (r0.symm.trans z) (by decide), Or.inr (⟨r0, p, rfl⟩)⟩
set_option maxRecDepth 100000 in
theorem w_L_deadlineOf {l : Launch} (hfl : l.stackTraces = false) {D : va_G} {cs : mC} {df c0 m0 o1 o2 : Nat} {σ μ : KS} {hh : mH} (sz : Nat) (hS : DSt cs df c0 m0 o1 o2 σ μ hh) (x0 : Int32) : Met l yL_deadlineOf (wsL_deadlineOf ++ lxW) ({ frames := 7, cells := 1, slots := 6, locals := 112 }) (lPre [.ref c0, .int x0, .ref o1] D cs df hh sz) (va_Qi (fun (r : Int32) (h1 : mH) => ∃ (σ1 : KS) (v : Int64), DSt cs df c0 m0 o1 o2 σ1 μ h1 ∧ (r = 0 → oL cs h1 o1 v) ∧ oc_deadlineOf σ x0 r v σ1) (mB D hh sz) (mA hh sz)) 1 6 (mA hh sz) := by
  obtain ⟨L, B, rfl, hB, hW⟩ := hS
  obtain ⟨f, ho⟩ := hW.2.2.1
  refine m_mono (c_L_deadlineOf hfl sz hW.1 o1 f ho hW.n1 x0) (m_moni (fun r h1 p => ?_))
  rcases p with ⟨r0, v, h9, p, q1, q2⟩ | ⟨r0, p⟩ | ⟨r0, p⟩
  · obtain ⟨t, p1, p2, e9, rfl⟩ := p
    subst e9
    exact ⟨_, _, ⟨L, B, rfl, hB, hW.go1 hW.1 q1 q2⟩, fun _ => q1, Or.inl (⟨t, r0, ⟨p1, p2⟩, rfl, rfl⟩)⟩
  · obtain ⟨e9, p⟩ := p
    rcases p with ⟨e8, p⟩ | ⟨e8, p⟩
    · exact ⟨σ, 0, ⟨L, B, rfl, hB, by rw [e9]; exact hW⟩, fun z => absurd (r0.symm.trans z) (by decide), Or.inr (Or.inl (⟨r0, p, rfl⟩))⟩
    · exact absurd e8 (by decide)
  · obtain ⟨e9, p⟩ := p
    rcases p with ⟨e8, p⟩ | ⟨e8, p⟩
    · exact absurd e8 (by decide)
    · exact ⟨σ, 0, ⟨L, B, rfl, hB, by rw [e9]; exact hW⟩, fun z => absurd (r0.symm.trans z) (by decide), Or.inr (Or.inr (⟨r0, p, rfl⟩))⟩
set_option maxRecDepth 100000 in
theorem w_L_urgencyOf {l : Launch} (hfl : l.stackTraces = false) {D : va_G} {cs : mC} {df c0 m0 o1 o2 : Nat} {σ μ : KS} {hh : mH} (sz : Nat) (hS : DSt cs df c0 m0 o1 o2 σ μ hh) (x0 : Int32) : Met l yL_urgencyOf (wsL_urgencyOf ++ lxW) ({ frames := 7, cells := 1, slots := 6, locals := 112 }) (lPre [.ref c0, .int x0, .ref o1] D cs df hh sz) (va_Qi (fun (r : Int32) (h1 : mH) => ∃ (σ1 : KS) (v : Int64), DSt cs df c0 m0 o1 o2 σ1 μ h1 ∧ (r = 0 → oL cs h1 o1 v) ∧ oc_urgencyOf σ x0 r v σ1) (mB D hh sz) (mA hh sz)) 1 6 (mA hh sz) := by
  obtain ⟨L, B, rfl, hB, hW⟩ := hS
  obtain ⟨f, ho⟩ := hW.2.2.1
  refine m_mono (c_L_urgencyOf hfl sz hW.1 o1 f ho hW.n1 x0) (m_moni (fun r h1 p => ?_))
  rcases p with ⟨r0, v, h9, p, q1, q2⟩ | ⟨r0, p⟩
  · obtain ⟨t, p1, hC1, p2, rfl⟩ := p
    exact ⟨_, _, ⟨L, B, rfl, hB, hW.go1 hC1 q1 q2⟩, fun _ => q1, Or.inl (⟨t, r0, ⟨p1, p2⟩, rfl, rfl⟩)⟩
  · obtain ⟨_, ⟨e9, p⟩ | ⟨t, p1, hC1, p2⟩⟩ := p
    · exact ⟨σ, 0, ⟨L, B, rfl, hB, by rw [e9]; exact hW⟩, fun z => absurd (r0.symm.trans z) (by decide), Or.inr (Or.inl ⟨r0, p, rfl⟩)⟩
    · exact ⟨_, 0, ⟨L, B, rfl, hB, hW.go0 hC1⟩, fun z => absurd (r0.symm.trans z) (by decide), Or.inr (Or.inr ⟨t, r0, ⟨p1, p2⟩, rfl⟩)⟩
set_option maxRecDepth 100000 in
theorem w_L_missesOf {l : Launch} (hfl : l.stackTraces = false) {D : va_G} {cs : mC} {df c0 m0 o1 o2 : Nat} {σ μ : KS} {hh : mH} (sz : Nat) (hS : DSt cs df c0 m0 o1 o2 σ μ hh) (x0 : Int32) : Met l yL_missesOf (wsL_missesOf ++ lxW) ({ frames := 7, cells := 1, slots := 6, locals := 112 }) (lPre [.ref c0, .int x0, .ref o1] D cs df hh sz) (va_Qi (fun (r : Int32) (h1 : mH) => ∃ (σ1 : KS) (v : Int64), DSt cs df c0 m0 o1 o2 σ1 μ h1 ∧ (r = 0 → oL cs h1 o1 v) ∧ oc_missesOf σ x0 r v σ1) (mB D hh sz) (mA hh sz)) 1 6 (mA hh sz) := by
  obtain ⟨L, B, rfl, hB, hW⟩ := hS
  obtain ⟨f, ho⟩ := hW.2.2.1
  refine m_mono (c_L_missesOf hfl sz hW.1 o1 f ho hW.n1 x0) (m_moni (fun r h1 p => ?_))
  rcases p with ⟨r0, v, h9, p, q1, q2⟩ | ⟨r0, p⟩
  · obtain ⟨t, p1, e9, rfl⟩ := p
    subst e9
    exact ⟨_, _, ⟨L, B, rfl, hB, hW.go1 hW.1 q1 q2⟩, fun _ => q1, Or.inl (⟨t, r0, p1, rfl, rfl⟩)⟩
  · obtain ⟨_, e9, p⟩ := p
    exact ⟨σ, 0, ⟨L, B, rfl, hB, by rw [e9]; exact hW⟩, fun z => absurd (r0.symm.trans z) (by decide), Or.inr (⟨r0, p, rfl⟩)⟩
set_option maxRecDepth 100000 in
theorem w_L_take {l : Launch} (hfl : l.stackTraces = false) {D : va_G} {cs : mC} {df c0 m0 o1 o2 : Nat} {σ μ : KS} {hh : mH} (sz : Nat) (hS : DSt cs df c0 m0 o1 o2 σ μ hh) (x0 : Int32) (x1 : Int32) (hz : ∀ w, w < 4 → kN σ 62 (4 + w) ≤ 50) : Met l yL_take (wsL_take ++ lxW) ({ frames := 8, cells := 1, slots := 200, locals := 215 }) (lPre [.ref c0, .int x0, .int x1, .ref o1] D cs df hh sz) (va_Qi (fun (r : Int32) (h1 : mH) => ∃ (σ1 : KS) (v : Int64), DSt cs df c0 m0 o1 o2 σ1 μ h1 ∧ (r = 0 → oL cs h1 o1 v) ∧ oc_take σ x0 x1 r v σ1) (mB D hh sz) (mA hh sz)) 1 200 (mA hh sz) := by
  obtain ⟨L, B, rfl, hB, hW⟩ := hS
  obtain ⟨f, ho⟩ := hW.2.2.1
  refine m_mono (c_L_take hfl sz hW.1 o1 f ho hW.n1 x0 x1 hz) (m_moni (fun r h1 p => ?_))
  rcases p with ⟨r0, v, h9, p, q1, q2⟩ | ⟨r0, p⟩ | ⟨r0, p⟩ | ⟨r0, p⟩ | ⟨r0, p⟩
  · obtain ⟨t, w, p1, p2, p3, p4, p5, p6⟩ := p
    rcases p6 with ⟨p6, hC1, rfl⟩ | ⟨k, p6, p7, hC1, rfl⟩
    · exact ⟨_, _, ⟨L, B, rfl, hB, hW.go1 hC1 q1 q2⟩, fun _ => q1, Or.inl ⟨t, w, r0, ⟨p1, p2, p3, p4, p5⟩, p6, rfl, rfl⟩⟩
    · exact ⟨_, _, ⟨L, B, rfl, hB, hW.go1 hC1 q1 q2⟩, fun _ => q1, Or.inr (Or.inl ⟨t, w, k, r0, ⟨p1, p2, p3, p4, p5⟩, ⟨p6, p7⟩, rfl, rfl⟩)⟩
  · obtain ⟨e9, p⟩ := p
    rcases p with ⟨e8, p⟩ | ⟨e8, p⟩ | ⟨e8, p⟩ | ⟨e8, p⟩
    · exact ⟨σ, 0, ⟨L, B, rfl, hB, by rw [e9]; exact hW⟩, fun z => absurd (r0.symm.trans z) (by decide), Or.inr (Or.inr (Or.inl (⟨r0, p, rfl⟩)))⟩
    · exact absurd e8 (by decide)
    · exact absurd e8 (by decide)
    · exact absurd e8 (by decide)
  · obtain ⟨e9, p⟩ := p
    rcases p with ⟨e8, p⟩ | ⟨e8, p⟩ | ⟨e8, p⟩ | ⟨e8, p⟩
    · exact absurd e8 (by decide)
    · exact ⟨σ, 0, ⟨L, B, rfl, hB, by rw [e9]; exact hW⟩, fun z => absurd (r0.symm.trans z) (by decide), Or.inr (Or.inr (Or.inr (Or.inl (⟨r0, p, rfl⟩))))⟩
    · exact absurd e8 (by decide)
    · exact absurd e8 (by decide)
  · obtain ⟨e9, p⟩ := p
    rcases p with ⟨e8, p⟩ | ⟨e8, p⟩ | ⟨e8, p⟩ | ⟨e8, p⟩
    · exact absurd e8 (by decide)
    · exact absurd e8 (by decide)
    · exact ⟨σ, 0, ⟨L, B, rfl, hB, by rw [e9]; exact hW⟩, fun z => absurd (r0.symm.trans z) (by decide), Or.inr (Or.inr (Or.inr (Or.inr (Or.inl (⟨r0, p, rfl⟩)))))⟩
    · exact absurd e8 (by decide)
  · obtain ⟨e9, p⟩ := p
    rcases p with ⟨e8, p⟩ | ⟨e8, p⟩ | ⟨e8, p⟩ | ⟨e8, p⟩
    · exact absurd e8 (by decide)
    · exact absurd e8 (by decide)
    · exact absurd e8 (by decide)
    · exact ⟨σ, 0, ⟨L, B, rfl, hB, by rw [e9]; exact hW⟩, fun z => absurd (r0.symm.trans z) (by decide), Or.inr (Or.inr (Or.inr (Or.inr (Or.inr (⟨r0, p, rfl⟩)))))⟩
set_option maxRecDepth 100000 in
theorem w_L_release {l : Launch} (hfl : l.stackTraces = false) {D : va_G} {cs : mC} {df c0 m0 o1 o2 : Nat} {σ μ : KS} {hh : mH} (sz : Nat) (hS : DSt cs df c0 m0 o1 o2 σ μ hh) (x0 : Int32) : Met l yL_release (wsL_release ++ lxW) ({ frames := 7, cells := 1, slots := 6, locals := 149 }) (lPre [.ref c0, .int x0, .ref o1] D cs df hh sz) (va_Qi (fun (r : Int32) (h1 : mH) => ∃ (σ1 : KS) (v : Int64), DSt cs df c0 m0 o1 o2 σ1 μ h1 ∧ (r = 0 → oL cs h1 o1 v) ∧ oc_release σ x0 r v σ1) (mB D hh sz) (mA hh sz)) 1 6 (mA hh sz) := by
  obtain ⟨L, B, rfl, hB, hW⟩ := hS
  obtain ⟨f, ho⟩ := hW.2.2.1
  refine m_mono (c_L_release hfl sz hW.1 o1 f ho hW.n1 x0) (m_moni (fun r h1 p => ?_))
  rcases p with ⟨r0, v, h9, p, q1, q2⟩ | ⟨r0, p⟩ | ⟨r0, p⟩
  · obtain ⟨w, t, p1, p2, hC1, rfl⟩ := p
    exact ⟨_, _, ⟨L, B, rfl, hB, hW.go1 hC1 q1 q2⟩, fun _ => q1, Or.inl (⟨w, t, r0, ⟨p1, p2⟩, rfl, rfl⟩)⟩
  · obtain ⟨e9, p⟩ := p
    rcases p with ⟨e8, p⟩ | ⟨e8, p⟩
    · exact ⟨σ, 0, ⟨L, B, rfl, hB, by rw [e9]; exact hW⟩, fun z => absurd (r0.symm.trans z) (by decide), Or.inr (Or.inl (⟨r0, p, rfl⟩))⟩
    · exact absurd e8 (by decide)
  · obtain ⟨e9, p⟩ := p
    rcases p with ⟨e8, p⟩ | ⟨e8, p⟩
    · exact absurd e8 (by decide)
    · exact ⟨σ, 0, ⟨L, B, rfl, hB, by rw [e9]; exact hW⟩, fun z => absurd (r0.symm.trans z) (by decide), Or.inr (Or.inr (⟨r0, p, rfl⟩))⟩
set_option maxRecDepth 100000 in
theorem w_L_holderOf {l : Launch} (hfl : l.stackTraces = false) {D : va_G} {cs : mC} {df c0 m0 o1 o2 : Nat} {σ μ : KS} {hh : mH} (sz : Nat) (hS : DSt cs df c0 m0 o1 o2 σ μ hh) (x0 : Int32) : Met l yL_holderOf (wsL_holderOf ++ lxW) ({ frames := 7, cells := 1, slots := 6, locals := 112 }) (lPre [.ref c0, .int x0, .ref o1] D cs df hh sz) (va_Qi (fun (r : Int32) (h1 : mH) => ∃ (σ1 : KS) (v : Int64), DSt cs df c0 m0 o1 o2 σ1 μ h1 ∧ (r = 0 → oL cs h1 o1 v) ∧ oc_holderOf σ x0 r v σ1) (mB D hh sz) (mA hh sz)) 1 6 (mA hh sz) := by
  obtain ⟨L, B, rfl, hB, hW⟩ := hS
  obtain ⟨f, ho⟩ := hW.2.2.1
  refine m_mono (c_L_holderOf hfl sz hW.1 o1 f ho hW.n1 x0) (m_moni (fun r h1 p => ?_))
  rcases p with ⟨r0, v, h9, p, q1, q2⟩ | ⟨r0, p⟩
  · obtain ⟨t, p1, e9, rfl⟩ := p
    subst e9
    exact ⟨_, _, ⟨L, B, rfl, hB, hW.go1 hW.1 q1 q2⟩, fun _ => q1, Or.inl (⟨t, r0, p1, rfl, rfl⟩)⟩
  · obtain ⟨_, e9, p⟩ := p
    exact ⟨σ, 0, ⟨L, B, rfl, hB, by rw [e9]; exact hW⟩, fun z => absurd (r0.symm.trans z) (by decide), Or.inr (⟨r0, p, rfl⟩)⟩
set_option maxRecDepth 100000 in
theorem w_L_waiterAt {l : Launch} (hfl : l.stackTraces = false) {D : va_G} {cs : mC} {df c0 m0 o1 o2 : Nat} {σ μ : KS} {hh : mH} (sz : Nat) (hS : DSt cs df c0 m0 o1 o2 σ μ hh) (x0 : Int32) (x1 : Int32) : Met l yL_waiterAt (wsL_waiterAt ++ lxW) ({ frames := 7, cells := 1, slots := 6, locals := 113 }) (lPre [.ref c0, .int x0, .int x1, .ref o1] D cs df hh sz) (va_Qi (fun (r : Int32) (h1 : mH) => ∃ (σ1 : KS) (v : Int64), DSt cs df c0 m0 o1 o2 σ1 μ h1 ∧ (r = 0 → oL cs h1 o1 v) ∧ oc_waiterAt σ x0 x1 r v σ1) (mB D hh sz) (mA hh sz)) 1 6 (mA hh sz) := by
  obtain ⟨L, B, rfl, hB, hW⟩ := hS
  obtain ⟨f, ho⟩ := hW.2.2.1
  refine m_mono (c_L_waiterAt hfl sz hW.1 o1 f ho hW.n1 x0 x1) (m_moni (fun r h1 p => ?_))
  rcases p with ⟨r0, v, h9, p, q1, q2⟩ | ⟨r0, p⟩ | ⟨r0, p⟩
  · obtain ⟨w, i, p1, p2, e9, rfl⟩ := p
    subst e9
    exact ⟨_, _, ⟨L, B, rfl, hB, hW.go1 hW.1 q1 q2⟩, fun _ => q1, Or.inl (⟨w, i, r0, ⟨p1, p2⟩, rfl, rfl⟩)⟩
  · obtain ⟨e9, p⟩ := p
    rcases p with ⟨e8, p⟩ | ⟨e8, p⟩
    · exact ⟨σ, 0, ⟨L, B, rfl, hB, by rw [e9]; exact hW⟩, fun z => absurd (r0.symm.trans z) (by decide), Or.inr (Or.inl (⟨r0, p, rfl⟩))⟩
    · exact absurd e8 (by decide)
  · obtain ⟨e9, p⟩ := p
    rcases p with ⟨e8, p⟩ | ⟨e8, p⟩
    · exact absurd e8 (by decide)
    · exact ⟨σ, 0, ⟨L, B, rfl, hB, by rw [e9]; exact hW⟩, fun z => absurd (r0.symm.trans z) (by decide), Or.inr (Or.inr (⟨r0, p, rfl⟩))⟩
set_option maxRecDepth 100000 in
theorem w_L_choice {l : Launch} (hfl : l.stackTraces = false) {D : va_G} {cs : mC} {df c0 m0 o1 o2 : Nat} {σ μ : KS} {hh : mH} (sz : Nat) (hS : DSt cs df c0 m0 o1 o2 σ μ hh) (x0 : Int32) : Met l yL_choice (wsL_choice ++ lxW) ({ frames := 7, cells := 1, slots := 6, locals := 161 }) (lPre [.ref c0, .int x0, .ref o1] D cs df hh sz) (va_Qi (fun (r : Int32) (h1 : mH) => ∃ (σ1 : KS) (v : Int64), DSt cs df c0 m0 o1 o2 σ1 μ h1 ∧ (r = 0 → oL cs h1 o1 v) ∧ oc_choice σ x0 r v σ1) (mB D hh sz) (mA hh sz)) 1 6 (mA hh sz) := by
  obtain ⟨L, B, rfl, hB, hW⟩ := hS
  obtain ⟨f, ho⟩ := hW.2.2.1
  refine m_mono (c_L_choice hfl sz hW.1 o1 f ho hW.n1 x0) (m_moni (fun r h1 p => ?_))
  rcases p with ⟨r0, v, h9, p, q1, q2⟩ | ⟨r0, p⟩
  · obtain ⟨t, p1, hC1, rfl⟩ := p
    exact ⟨_, _, ⟨L, B, rfl, hB, hW.go1 hC1 q1 q2⟩, fun _ => q1, Or.inl (⟨t, r0, p1, rfl, rfl⟩)⟩
  · obtain ⟨_, e9, p⟩ := p
    exact ⟨σ, 0, ⟨L, B, rfl, hB, by rw [e9]; exact hW⟩, fun z => absurd (r0.symm.trans z) (by decide), Or.inr (⟨r0, p, rfl⟩)⟩
set_option maxRecDepth 100000 in
theorem w_L_choiceByComparing {l : Launch} (hfl : l.stackTraces = false) {D : va_G} {cs : mC} {df c0 m0 o1 o2 : Nat} {σ μ : KS} {hh : mH} (sz : Nat) (hS : DSt cs df c0 m0 o1 o2 σ μ hh) (x0 : Int32) : Met l yL_choiceByComparing (wsL_choiceByComparing ++ lxW) ({ frames := 7, cells := 1, slots := 6, locals := 161 }) (lPre [.ref c0, .int x0, .ref o1] D cs df hh sz) (va_Qi (fun (r : Int32) (h1 : mH) => ∃ (σ1 : KS) (v : Int64), DSt cs df c0 m0 o1 o2 σ1 μ h1 ∧ (r = 0 → oL cs h1 o1 v) ∧ oc_choiceByComparing σ x0 r v σ1) (mB D hh sz) (mA hh sz)) 1 6 (mA hh sz) := by
  obtain ⟨L, B, rfl, hB, hW⟩ := hS
  obtain ⟨f, ho⟩ := hW.2.2.1
  refine m_mono (c_L_choiceByComparing hfl sz hW.1 o1 f ho hW.n1 x0) (m_moni (fun r h1 p => ?_))
  rcases p with ⟨r0, v, h9, p, q1, q2⟩ | ⟨r0, p⟩
  · obtain ⟨t, p1, hC1, rfl⟩ := p
    exact ⟨_, _, ⟨L, B, rfl, hB, hW.go1 hC1 q1 q2⟩, fun _ => q1, Or.inl (⟨t, r0, p1, rfl, rfl⟩)⟩
  · obtain ⟨_, e9, p⟩ := p
    exact ⟨σ, 0, ⟨L, B, rfl, hB, by rw [e9]; exact hW⟩, fun z => absurd (r0.symm.trans z) (by decide), Or.inr (⟨r0, p, rfl⟩)⟩
set_option maxRecDepth 100000 in
theorem w_L_pass {l : Launch} (hfl : l.stackTraces = false) {D : va_G} {cs : mC} {df c0 m0 o1 o2 : Nat} {σ μ : KS} {hh : mH} (sz : Nat) (hS : DSt cs df c0 m0 o1 o2 σ μ hh) (x0 : Int32) : Met l yL_pass (wsL_pass ++ lxW) ({ frames := 8, cells := 1, slots := 6, locals := 184 }) (lPre [.ref c0, .int x0, .ref o1] D cs df hh sz) (va_Qi (fun (r : Int32) (h1 : mH) => ∃ (σ1 : KS) (v : Int64), DSt cs df c0 m0 o1 o2 σ1 μ h1 ∧ (r = 0 → oL cs h1 o1 v) ∧ oc_pass σ x0 r v σ1) (mB D hh sz) (mA hh sz)) 1 6 (mA hh sz) := by
  obtain ⟨L, B, rfl, hB, hW⟩ := hS
  obtain ⟨f, ho⟩ := hW.2.2.1
  refine m_mono (c_L_pass hfl sz hW.1 o1 f ho hW.n1 x0) (m_moni (fun r h1 p => ?_))
  rcases p with ⟨r0, v, h9, p, q1, q2⟩ | ⟨r0, p⟩ | ⟨r0, p⟩
  · obtain ⟨n, p1, p2, p3, hC1, rfl⟩ := p
    exact ⟨_, _, ⟨L, B, rfl, hB, hW.go1 hC1 q1 q2⟩, fun _ => q1, Or.inl (⟨n, r0, ⟨p1, p2, p3⟩, rfl, rfl⟩)⟩
  · obtain ⟨e9, p⟩ := p
    rcases p with ⟨e8, p⟩ | ⟨e8, p⟩
    · exact ⟨σ, 0, ⟨L, B, rfl, hB, by rw [e9]; exact hW⟩, fun z => absurd (r0.symm.trans z) (by decide), Or.inr (Or.inl (⟨r0, p, rfl⟩))⟩
    · exact absurd e8 (by decide)
  · obtain ⟨e9, p⟩ := p
    rcases p with ⟨e8, p⟩ | ⟨e8, p⟩
    · exact absurd e8 (by decide)
    · exact ⟨σ, 0, ⟨L, B, rfl, hB, by rw [e9]; exact hW⟩, fun z => absurd (r0.symm.trans z) (by decide), Or.inr (Or.inr (⟨r0, p, rfl⟩))⟩
set_option maxRecDepth 100000 in
theorem w_L_usedShare {l : Launch} (hfl : l.stackTraces = false) {D : va_G} {cs : mC} {df c0 m0 o1 o2 : Nat} {σ μ : KS} {hh : mH} (sz : Nat) (hS : DSt cs df c0 m0 o1 o2 σ μ hh) (hnn : kI σ 5 0 ≠ 0 → vf_n32 (FP.fdiv (FP.i2f (kI σ 4 0)) (FP.i2f (kI σ 5 0)))) (hnf : kI σ 5 0 ≠ 0 → vf_n64 (FP.f2d (FP.fdiv (FP.i2f (kI σ 4 0)) (FP.i2f (kI σ 5 0))))) : Met l yL_usedShare (wsL_usedShare ++ lxW) ({ frames := 7, cells := 1, slots := 6, locals := 110 }) (lPre [.ref c0,  .ref o2] D cs df hh sz) (va_Qi (fun (r : Int32) (h1 : mH) => ∃ (σ1 : KS) (v : UInt64), DSt cs df c0 m0 o1 o2 σ1 μ h1 ∧ (r = 0 → oD cs h1 o2 v) ∧ oc_usedShare σ  r v σ1) (mB D hh sz) (mA hh sz)) 1 6 (mA hh sz) := by
  obtain ⟨L, B, rfl, hB, hW⟩ := hS
  obtain ⟨f, ho⟩ := hW.2.2.2.1
  refine m_mono (c_L_usedShare hfl sz hW.1 o2 f ho hW.n2 hnn (by rintro v ⟨_, a, rfl⟩; exact hnf a)) (m_moni (fun r h1 p => ?_))
  rcases p with ⟨r0, v, h9, p, q1, q2⟩ | ⟨r0, p⟩
  · obtain ⟨e9, p1, rfl⟩ := p
    subst e9
    exact ⟨_, _, ⟨L, B, rfl, hB, hW.go2 hW.1 q1 q2⟩, fun _ => q1, Or.inl (⟨r0, p1, rfl, rfl⟩)⟩
  · obtain ⟨_, e9, p⟩ := p
    exact ⟨σ, 0, ⟨L, B, rfl, hB, by rw [e9]; exact hW⟩, fun z => absurd (r0.symm.trans z) (by decide), Or.inr (⟨r0, p, rfl⟩)⟩
set_option maxRecDepth 100000 in
theorem w_L_meanHeat {l : Launch} (hfl : l.stackTraces = false) {D : va_G} {cs : mC} {df c0 m0 o1 o2 : Nat} {σ μ : KS} {hh : mH} (sz : Nat) (hS : DSt cs df c0 m0 o1 o2 σ μ hh) (hnn : kN σ 62 0 ≠ 0 → vf_n64 (FP.ddiv (FP.i2d (sumI (fun t => kI σ 11 t) (kN σ 62 0))) (FP.i2d (nI (kN σ 62 0))))) : Met l yL_meanHeat (wsL_meanHeat ++ lxW) ({ frames := 7, cells := 1, slots := 6, locals := 113 }) (lPre [.ref c0,  .ref o2] D cs df hh sz) (va_Qi (fun (r : Int32) (h1 : mH) => ∃ (σ1 : KS) (v : UInt64), DSt cs df c0 m0 o1 o2 σ1 μ h1 ∧ (r = 0 → oD cs h1 o2 v) ∧ oc_meanHeat σ  r v σ1) (mB D hh sz) (mA hh sz)) 1 6 (mA hh sz) := by
  obtain ⟨L, B, rfl, hB, hW⟩ := hS
  obtain ⟨f, ho⟩ := hW.2.2.2.1
  refine m_mono (c_L_meanHeat hfl sz hW.1 o2 f ho hW.n2 hnn) (m_moni (fun r h1 p => ?_))
  rcases p with ⟨r0, v, h9, p, q1, q2⟩ | ⟨r0, p⟩
  · obtain ⟨e9, p1, rfl⟩ := p
    subst e9
    exact ⟨_, _, ⟨L, B, rfl, hB, hW.go2 hW.1 q1 q2⟩, fun _ => q1, Or.inl (⟨r0, p1, rfl, rfl⟩)⟩
  · obtain ⟨_, e9, p⟩ := p
    exact ⟨σ, 0, ⟨L, B, rfl, hB, by rw [e9]; exact hW⟩, fun z => absurd (r0.symm.trans z) (by decide), Or.inr (⟨r0, p, rfl⟩)⟩
