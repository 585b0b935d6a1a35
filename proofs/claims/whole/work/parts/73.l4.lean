theorem m_monl' {S : Type} {po po' : Int64 → S → Prop} {B : S → State → Prop} {A : Nat → Prop} (h : ∀ r u, po r u → po' r u) : ∀ a st o t, va_Ql po B A a st o t → va_Ql po' B A a st o t := by
  rintro a st o t ⟨⟨r, u, h1, h2, h3⟩, h4⟩
  exact ⟨⟨r, u, h1, h _ _ h2, h3⟩, h4⟩
theorem m_monf' {S : Type} {po po' : UInt32 → S → Prop} {B : S → State → Prop} {A : Nat → Prop} (h : ∀ r u, po r u → po' r u) : ∀ a st o t, va_Qf po B A a st o t → va_Qf po' B A a st o t := by
  rintro a st o t ⟨⟨r, u, h1, h2, h3⟩, h4⟩
  exact ⟨⟨r, u, h1, h _ _ h2, h3⟩, h4⟩
theorem m_mond' {S : Type} {po po' : UInt64 → S → Prop} {B : S → State → Prop} {A : Nat → Prop} (h : ∀ r u, po r u → po' r u) : ∀ a st o t, va_Qd po B A a st o t → va_Qd po' B A a st o t := by
  rintro a st o t ⟨⟨r, u, h1, h2, h3⟩, h4⟩
  exact ⟨⟨r, u, h1, h _ _ h2, h3⟩, h4⟩
theorem w_X5_addCore {l : Launch} {D : va_G} {cs : mC} {df c0 m0 o1 o2 : Nat} {σ μ : KS} {hh : mH} (sz : Nat) (hS : DSt cs df c0 m0 o1 o2 σ μ hh) (x0 : Int32) : Met l yX5_addCore wsX5_addCore ({ frames := 1, cells := 0, slots := 0, locals := 25 }) (mPre [.ref m0, .int x0] D cs df hh sz) (va_Qi (fun (r : Int32) (h1 : mH) => ∃ μ1 : KS, DSt cs df c0 m0 o1 o2 σ μ1 h1 ∧ h1 o1 = hh o1 ∧ h1 o2 = hh o2 ∧ om_addCore μ x0 r μ1) (mB D hh sz) (mA hh sz)) 0 0 (mA hh sz) := by
  obtain ⟨L, B, hL, rfl, hW⟩ := hS
  refine m_mono (c_X5_addCore sz hW.2.1 x0) (m_moni (fun r h1 p => ?_))
  obtain ⟨μ1, hM, p⟩ := p
  exact ⟨μ1, ⟨L, B, hL, rfl, (hW.ref hM).1⟩, (hW.ref hM).2.1, (hW.ref hM).2.2, p⟩
theorem w_X5_setLimit {l : Launch} {D : va_G} {cs : mC} {df c0 m0 o1 o2 : Nat} {σ μ : KS} {hh : mH} (sz : Nat) (hS : DSt cs df c0 m0 o1 o2 σ μ hh) (x0 : Int32) : Met l yX5_setLimit wsX5_setLimit ({ frames := 1, cells := 0, slots := 0, locals := 25 }) (mPre [.ref m0, .int x0] D cs df hh sz) (va_Qi (fun (r : Int32) (h1 : mH) => ∃ μ1 : KS, DSt cs df c0 m0 o1 o2 σ μ1 h1 ∧ h1 o1 = hh o1 ∧ h1 o2 = hh o2 ∧ om_setLimit μ x0 r μ1) (mB D hh sz) (mA hh sz)) 0 0 (mA hh sz) := by
  obtain ⟨L, B, hL, rfl, hW⟩ := hS
  refine m_mono (c_X5_setLimit sz hW.2.1 x0) (m_moni (fun r h1 p => ?_))
  obtain ⟨μ1, hM, p⟩ := p
  exact ⟨μ1, ⟨L, B, hL, rfl, (hW.ref hM).1⟩, (hW.ref hM).2.1, (hW.ref hM).2.2, p⟩
theorem w_X5_setCap {l : Launch} {D : va_G} {cs : mC} {df c0 m0 o1 o2 : Nat} {σ μ : KS} {hh : mH} (sz : Nat) (hS : DSt cs df c0 m0 o1 o2 σ μ hh) (x0 : Int32) : Met l yX5_setCap wsX5_setCap ({ frames := 1, cells := 0, slots := 0, locals := 25 }) (mPre [.ref m0, .int x0] D cs df hh sz) (va_Qi (fun (r : Int32) (h1 : mH) => ∃ μ1 : KS, DSt cs df c0 m0 o1 o2 σ μ1 h1 ∧ h1 o1 = hh o1 ∧ h1 o2 = hh o2 ∧ om_setCap μ x0 r μ1) (mB D hh sz) (mA hh sz)) 0 0 (mA hh sz) := by
  obtain ⟨L, B, hL, rfl, hW⟩ := hS
  refine m_mono (c_X5_setCap sz hW.2.1 x0) (m_moni (fun r h1 p => ?_))
  obtain ⟨μ1, hM, p⟩ := p
  exact ⟨μ1, ⟨L, B, hL, rfl, (hW.ref hM).1⟩, (hW.ref hM).2.1, (hW.ref hM).2.2, p⟩
theorem w_X5_heat {l : Launch} {D : va_G} {cs : mC} {df c0 m0 o1 o2 : Nat} {σ μ : KS} {hh : mH} (sz : Nat) (hS : DSt cs df c0 m0 o1 o2 σ μ hh) (x0 : Int32) : Met l yX5_heat wsX5_heat ({ frames := 2, cells := 0, slots := 0, locals := 46 }) (mPre [.ref m0, .int x0] D cs df hh sz) (va_Qi (fun (r : Int32) (h1 : mH) => ∃ μ1 : KS, DSt cs df c0 m0 o1 o2 σ μ1 h1 ∧ h1 o1 = hh o1 ∧ h1 o2 = hh o2 ∧ om_heat μ x0 r μ1) (mB D hh sz) (mA hh sz)) 0 0 (mA hh sz) := by
  obtain ⟨L, B, hL, rfl, hW⟩ := hS
  refine m_mono (c_X5_heat sz hW.2.1 x0) (m_moni (fun r h1 p => ?_))
  obtain ⟨μ1, hM, p⟩ := p
  exact ⟨μ1, ⟨L, B, hL, rfl, (hW.ref hM).1⟩, (hW.ref hM).2.1, (hW.ref hM).2.2, p⟩
theorem w_X5_pace {l : Launch} {D : va_G} {cs : mC} {df c0 m0 o1 o2 : Nat} {σ μ : KS} {hh : mH} (sz : Nat) (hS : DSt cs df c0 m0 o1 o2 σ μ hh) (x0 : Int32) : Met l yX5_pace wsX5_pace ({ frames := 2, cells := 0, slots := 0, locals := 46 }) (mPre [.ref m0, .int x0] D cs df hh sz) (va_Qi (fun (r : Int32) (h1 : mH) => ∃ μ1 : KS, DSt cs df c0 m0 o1 o2 σ μ1 h1 ∧ h1 o1 = hh o1 ∧ h1 o2 = hh o2 ∧ om_pace μ x0 r μ1) (mB D hh sz) (mA hh sz)) 0 0 (mA hh sz) := by
  obtain ⟨L, B, hL, rfl, hW⟩ := hS
  refine m_mono (c_X5_pace sz hW.2.1 x0) (m_moni (fun r h1 p => ?_))
  obtain ⟨μ1, hM, p⟩ := p
  exact ⟨μ1, ⟨L, B, hL, rfl, (hW.ref hM).1⟩, (hW.ref hM).2.1, (hW.ref hM).2.2, p⟩
theorem w_X5_addGroup {l : Launch} {D : va_G} {cs : mC} {df c0 m0 o1 o2 : Nat} {σ μ : KS} {hh : mH} (sz : Nat) (hS : DSt cs df c0 m0 o1 o2 σ μ hh) (x0 : Int32) (x1 : Int32) : Met l yX5_addGroup wsX5_addGroup ({ frames := 2, cells := 0, slots := 0, locals := 46 }) (mPre [.ref m0, .int x0, .int x1] D cs df hh sz) (va_Qi (fun (r : Int32) (h1 : mH) => ∃ μ1 : KS, DSt cs df c0 m0 o1 o2 σ μ1 h1 ∧ h1 o1 = hh o1 ∧ h1 o2 = hh o2 ∧ om_addGroup μ x0 x1 r μ1) (mB D hh sz) (mA hh sz)) 0 0 (mA hh sz) := by
  obtain ⟨L, B, hL, rfl, hW⟩ := hS
  refine m_mono (c_X5_addGroup sz hW.2.1 x0 x1) (m_moni (fun r h1 p => ?_))
  obtain ⟨μ1, hM, p⟩ := p
  exact ⟨μ1, ⟨L, B, hL, rfl, (hW.ref hM).1⟩, (hW.ref hM).2.1, (hW.ref hM).2.2, p⟩
theorem w_X5_addPlain {l : Launch} {D : va_G} {cs : mC} {df c0 m0 o1 o2 : Nat} {σ μ : KS} {hh : mH} (sz : Nat) (hS : DSt cs df c0 m0 o1 o2 σ μ hh) (x0 : Int32) (x1 : Int32) (x2 : Int32) : Met l yX5_addPlain wsX5_addPlain ({ frames := 2, cells := 0, slots := 0, locals := 49 }) (mPre [.ref m0, .int x0, .int x1, .int x2] D cs df hh sz) (va_Qi (fun (r : Int32) (h1 : mH) => ∃ μ1 : KS, DSt cs df c0 m0 o1 o2 σ μ1 h1 ∧ h1 o1 = hh o1 ∧ h1 o2 = hh o2 ∧ om_addPlain μ x0 x1 x2 r μ1) (mB D hh sz) (mA hh sz)) 0 0 (mA hh sz) := by
  obtain ⟨L, B, hL, rfl, hW⟩ := hS
  refine m_mono (c_X5_addPlain sz hW.2.1 x0 x1 x2) (m_moni (fun r h1 p => ?_))
  obtain ⟨μ1, hM, p⟩ := p
  exact ⟨μ1, ⟨L, B, hL, rfl, (hW.ref hM).1⟩, (hW.ref hM).2.1, (hW.ref hM).2.2, p⟩
theorem w_X5_addTimed {l : Launch} {D : va_G} {cs : mC} {df c0 m0 o1 o2 : Nat} {σ μ : KS} {hh : mH} (sz : Nat) (hS : DSt cs df c0 m0 o1 o2 σ μ hh) (x0 : Int32) (x1 : Int32) (x2 : Int32) (x3 : Int32) : Met l yX5_addTimed wsX5_addTimed ({ frames := 2, cells := 0, slots := 0, locals := 49 }) (mPre [.ref m0, .int x0, .int x1, .int x2, .int x3] D cs df hh sz) (va_Qi (fun (r : Int32) (h1 : mH) => ∃ μ1 : KS, DSt cs df c0 m0 o1 o2 σ μ1 h1 ∧ h1 o1 = hh o1 ∧ h1 o2 = hh o2 ∧ om_addTimed μ x0 x1 x2 x3 r μ1) (mB D hh sz) (mA hh sz)) 0 0 (mA hh sz) := by
  obtain ⟨L, B, hL, rfl, hW⟩ := hS
  refine m_mono (c_X5_addTimed sz hW.2.1 x0 x1 x2 x3) (m_moni (fun r h1 p => ?_))
  obtain ⟨μ1, hM, p⟩ := p
  exact ⟨μ1, ⟨L, B, hL, rfl, (hW.ref hM).1⟩, (hW.ref hM).2.1, (hW.ref hM).2.2, p⟩
theorem w_X5_end {l : Launch} {D : va_G} {cs : mC} {df c0 m0 o1 o2 : Nat} {σ μ : KS} {hh : mH} (sz : Nat) (hS : DSt cs df c0 m0 o1 o2 σ μ hh) (x0 : Int32) : Met l yX5_end wsX5_end ({ frames := 2, cells := 0, slots := 0, locals := 47 }) (mPre [.ref m0, .int x0] D cs df hh sz) (va_Qi (fun (r : Int32) (h1 : mH) => ∃ μ1 : KS, DSt cs df c0 m0 o1 o2 σ μ1 h1 ∧ h1 o1 = hh o1 ∧ h1 o2 = hh o2 ∧ om_end μ x0 r μ1) (mB D hh sz) (mA hh sz)) 0 0 (mA hh sz) := by
  obtain ⟨L, B, hL, rfl, hW⟩ := hS
  refine m_mono (c_X5_end sz hW.2.1 x0) (m_moni (fun r h1 p => ?_))
  obtain ⟨μ1, hM, p⟩ := p
  exact ⟨μ1, ⟨L, B, hL, rfl, (hW.ref hM).1⟩, (hW.ref hM).2.1, (hW.ref hM).2.2, p⟩
theorem w_X5_left {l : Launch} {D : va_G} {cs : mC} {df c0 m0 o1 o2 : Nat} {σ μ : KS} {hh : mH} (sz : Nat) (hS : DSt cs df c0 m0 o1 o2 σ μ hh) (x0 : Int32) : Met l yX5_left wsX5_left ({ frames := 3, cells := 0, slots := 0, locals := 67 }) (mPre [.ref m0, .int x0] D cs df hh sz) (va_Qi (fun (r : Int32) (h1 : mH) => ∃ μ1 : KS, DSt cs df c0 m0 o1 o2 σ μ1 h1 ∧ h1 o1 = hh o1 ∧ h1 o2 = hh o2 ∧ om_left μ x0 r μ1) (mB D hh sz) (mA hh sz)) 0 0 (mA hh sz) := by
  obtain ⟨L, B, hL, rfl, hW⟩ := hS
  refine m_mono (c_X5_left sz hW.2.1 x0) (m_moni (fun r h1 p => ?_))
  obtain ⟨μ1, hM, p⟩ := p
  exact ⟨μ1, ⟨L, B, hL, rfl, (hW.ref hM).1⟩, (hW.ref hM).2.1, (hW.ref hM).2.2, p⟩
theorem w_X5_stateOf {l : Launch} {D : va_G} {cs : mC} {df c0 m0 o1 o2 : Nat} {σ μ : KS} {hh : mH} (sz : Nat) (hS : DSt cs df c0 m0 o1 o2 σ μ hh) (x0 : Int32) : Met l yX5_stateOf wsX5_stateOf ({ frames := 3, cells := 0, slots := 0, locals := 67 }) (mPre [.ref m0, .int x0] D cs df hh sz) (va_Qi (fun (r : Int32) (h1 : mH) => ∃ μ1 : KS, DSt cs df c0 m0 o1 o2 σ μ1 h1 ∧ h1 o1 = hh o1 ∧ h1 o2 = hh o2 ∧ om_stateOf μ x0 r μ1) (mB D hh sz) (mA hh sz)) 0 0 (mA hh sz) := by
  obtain ⟨L, B, hL, rfl, hW⟩ := hS
  refine m_mono (c_X5_stateOf sz hW.2.1 x0) (m_moni (fun r h1 p => ?_))
  obtain ⟨μ1, hM, p⟩ := p
  exact ⟨μ1, ⟨L, B, hL, rfl, (hW.ref hM).1⟩, (hW.ref hM).2.1, (hW.ref hM).2.2, p⟩
theorem w_X5_timeOf {l : Launch} {D : va_G} {cs : mC} {df c0 m0 o1 o2 : Nat} {σ μ : KS} {hh : mH} (sz : Nat) (hS : DSt cs df c0 m0 o1 o2 σ μ hh) (x0 : Int32) : Met l yX5_timeOf wsX5_timeOf ({ frames := 3, cells := 0, slots := 0, locals := 67 }) (mPre [.ref m0, .int x0] D cs df hh sz) (va_Ql (fun (r : Int64) (h1 : mH) => ∃ μ1 : KS, DSt cs df c0 m0 o1 o2 σ μ1 h1 ∧ h1 o1 = hh o1 ∧ h1 o2 = hh o2 ∧ om_timeOf μ x0 r μ1) (mB D hh sz) (mA hh sz)) 0 0 (mA hh sz) := by
  obtain ⟨L, B, hL, rfl, hW⟩ := hS
  refine m_mono (c_X5_timeOf sz hW.2.1 x0) (m_monl' (fun r h1 p => ?_))
  obtain ⟨μ1, hM, p⟩ := p
  exact ⟨μ1, ⟨L, B, hL, rfl, (hW.ref hM).1⟩, (hW.ref hM).2.1, (hW.ref hM).2.2, p⟩
theorem w_X5_timeOfGroup {l : Launch} {D : va_G} {cs : mC} {df c0 m0 o1 o2 : Nat} {σ μ : KS} {hh : mH} (sz : Nat) (hS : DSt cs df c0 m0 o1 o2 σ μ hh) (x0 : Int32) : Met l yX5_timeOfGroup wsX5_timeOfGroup ({ frames := 1, cells := 0, slots := 0, locals := 25 }) (mPre [.ref m0, .int x0] D cs df hh sz) (va_Ql (fun (r : Int64) (h1 : mH) => ∃ μ1 : KS, DSt cs df c0 m0 o1 o2 σ μ1 h1 ∧ h1 o1 = hh o1 ∧ h1 o2 = hh o2 ∧ om_timeOfGroup μ x0 r μ1) (mB D hh sz) (mA hh sz)) 0 0 (mA hh sz) := by
  obtain ⟨L, B, hL, rfl, hW⟩ := hS
  refine m_mono (c_X5_timeOfGroup sz hW.2.1 x0) (m_monl' (fun r h1 p => ?_))
  obtain ⟨μ1, hM, p⟩ := p
  exact ⟨μ1, ⟨L, B, hL, rfl, (hW.ref hM).1⟩, (hW.ref hM).2.1, (hW.ref hM).2.2, p⟩
theorem w_X5_doneBy {l : Launch} {D : va_G} {cs : mC} {df c0 m0 o1 o2 : Nat} {σ μ : KS} {hh : mH} (sz : Nat) (hS : DSt cs df c0 m0 o1 o2 σ μ hh) (x0 : Int32) : Met l yX5_doneBy wsX5_doneBy ({ frames := 3, cells := 0, slots := 0, locals := 67 }) (mPre [.ref m0, .int x0] D cs df hh sz) (va_Qi (fun (r : Int32) (h1 : mH) => ∃ μ1 : KS, DSt cs df c0 m0 o1 o2 σ μ1 h1 ∧ h1 o1 = hh o1 ∧ h1 o2 = hh o2 ∧ om_doneBy μ x0 r μ1) (mB D hh sz) (mA hh sz)) 0 0 (mA hh sz) := by
  obtain ⟨L, B, hL, rfl, hW⟩ := hS
  refine m_mono (c_X5_doneBy sz hW.2.1 x0) (m_moni (fun r h1 p => ?_))
  obtain ⟨μ1, hM, p⟩ := p
  exact ⟨μ1, ⟨L, B, hL, rfl, (hW.ref hM).1⟩, (hW.ref hM).2.1, (hW.ref hM).2.2, p⟩
theorem w_X5_doneIn {l : Launch} {D : va_G} {cs : mC} {df c0 m0 o1 o2 : Nat} {σ μ : KS} {hh : mH} (sz : Nat) (hS : DSt cs df c0 m0 o1 o2 σ μ hh) (x0 : Int32) : Met l yX5_doneIn wsX5_doneIn ({ frames := 2, cells := 0, slots := 0, locals := 46 }) (mPre [.ref m0, .int x0] D cs df hh sz) (va_Qi (fun (r : Int32) (h1 : mH) => ∃ μ1 : KS, DSt cs df c0 m0 o1 o2 σ μ1 h1 ∧ h1 o1 = hh o1 ∧ h1 o2 = hh o2 ∧ om_doneIn μ x0 r μ1) (mB D hh sz) (mA hh sz)) 0 0 (mA hh sz) := by
  obtain ⟨L, B, hL, rfl, hW⟩ := hS
  refine m_mono (c_X5_doneIn sz hW.2.1 x0) (m_moni (fun r h1 p => ?_))
  obtain ⟨μ1, hM, p⟩ := p
  exact ⟨μ1, ⟨L, B, hL, rfl, (hW.ref hM).1⟩, (hW.ref hM).2.1, (hW.ref hM).2.2, p⟩
theorem w_X5_deadlineOf {l : Launch} {D : va_G} {cs : mC} {df c0 m0 o1 o2 : Nat} {σ μ : KS} {hh : mH} (sz : Nat) (hS : DSt cs df c0 m0 o1 o2 σ μ hh) (x0 : Int32) : Met l yX5_deadlineOf wsX5_deadlineOf ({ frames := 2, cells := 0, slots := 0, locals := 46 }) (mPre [.ref m0, .int x0] D cs df hh sz) (va_Qi (fun (r : Int32) (h1 : mH) => ∃ μ1 : KS, DSt cs df c0 m0 o1 o2 σ μ1 h1 ∧ h1 o1 = hh o1 ∧ h1 o2 = hh o2 ∧ om_deadlineOf μ x0 r μ1) (mB D hh sz) (mA hh sz)) 0 0 (mA hh sz) := by
  obtain ⟨L, B, hL, rfl, hW⟩ := hS
  refine m_mono (c_X5_deadlineOf sz hW.2.1 x0) (m_moni (fun r h1 p => ?_))
  obtain ⟨μ1, hM, p⟩ := p
  exact ⟨μ1, ⟨L, B, hL, rfl, (hW.ref hM).1⟩, (hW.ref hM).2.1, (hW.ref hM).2.2, p⟩
theorem w_X5_urgencyOf {l : Launch} {D : va_G} {cs : mC} {df c0 m0 o1 o2 : Nat} {σ μ : KS} {hh : mH} (sz : Nat) (hS : DSt cs df c0 m0 o1 o2 σ μ hh) (x0 : Int32) : Met l yX5_urgencyOf wsX5_urgencyOf ({ frames := 2, cells := 0, slots := 0, locals := 46 }) (mPre [.ref m0, .int x0] D cs df hh sz) (va_Qi (fun (r : Int32) (h1 : mH) => ∃ μ1 : KS, DSt cs df c0 m0 o1 o2 σ μ1 h1 ∧ h1 o1 = hh o1 ∧ h1 o2 = hh o2 ∧ om_urgencyOf μ x0 r μ1) (mB D hh sz) (mA hh sz)) 0 0 (mA hh sz) := by
  obtain ⟨L, B, hL, rfl, hW⟩ := hS
  refine m_mono (c_X5_urgencyOf sz hW.2.1 x0) (m_moni (fun r h1 p => ?_))
  obtain ⟨μ1, hM, p⟩ := p
  exact ⟨μ1, ⟨L, B, hL, rfl, (hW.ref hM).1⟩, (hW.ref hM).2.1, (hW.ref hM).2.2, p⟩
theorem w_X5_missesOf {l : Launch} {D : va_G} {cs : mC} {df c0 m0 o1 o2 : Nat} {σ μ : KS} {hh : mH} (sz : Nat) (hS : DSt cs df c0 m0 o1 o2 σ μ hh) (x0 : Int32) : Met l yX5_missesOf wsX5_missesOf ({ frames := 3, cells := 0, slots := 0, locals := 67 }) (mPre [.ref m0, .int x0] D cs df hh sz) (va_Qi (fun (r : Int32) (h1 : mH) => ∃ μ1 : KS, DSt cs df c0 m0 o1 o2 σ μ1 h1 ∧ h1 o1 = hh o1 ∧ h1 o2 = hh o2 ∧ om_missesOf μ x0 r μ1) (mB D hh sz) (mA hh sz)) 0 0 (mA hh sz) := by
  obtain ⟨L, B, hL, rfl, hW⟩ := hS
  refine m_mono (c_X5_missesOf sz hW.2.1 x0) (m_moni (fun r h1 p => ?_))
  obtain ⟨μ1, hM, p⟩ := p
  exact ⟨μ1, ⟨L, B, hL, rfl, (hW.ref hM).1⟩, (hW.ref hM).2.1, (hW.ref hM).2.2, p⟩
theorem w_X5_take {l : Launch} {D : va_G} {cs : mC} {df c0 m0 o1 o2 : Nat} {σ μ : KS} {hh : mH} (sz : Nat) (hS : DSt cs df c0 m0 o1 o2 σ μ hh) (x0 : Int32) (x1 : Int32) : Met l yX5_take wsX5_take ({ frames := 2, cells := 0, slots := 0, locals := 46 }) (mPre [.ref m0, .int x0, .int x1] D cs df hh sz) (va_Qi (fun (r : Int32) (h1 : mH) => ∃ μ1 : KS, DSt cs df c0 m0 o1 o2 σ μ1 h1 ∧ h1 o1 = hh o1 ∧ h1 o2 = hh o2 ∧ om_take μ x0 x1 r μ1) (mB D hh sz) (mA hh sz)) 0 0 (mA hh sz) := by
  obtain ⟨L, B, hL, rfl, hW⟩ := hS
  refine m_mono (c_X5_take sz hW.2.1 x0 x1) (m_moni (fun r h1 p => ?_))
  obtain ⟨μ1, hM, p⟩ := p
  exact ⟨μ1, ⟨L, B, hL, rfl, (hW.ref hM).1⟩, (hW.ref hM).2.1, (hW.ref hM).2.2, p⟩
theorem w_X5_release {l : Launch} {D : va_G} {cs : mC} {df c0 m0 o1 o2 : Nat} {σ μ : KS} {hh : mH} (sz : Nat) (hS : DSt cs df c0 m0 o1 o2 σ μ hh) (x0 : Int32) : Met l yX5_release wsX5_release ({ frames := 2, cells := 0, slots := 0, locals := 47 }) (mPre [.ref m0, .int x0] D cs df hh sz) (va_Qi (fun (r : Int32) (h1 : mH) => ∃ μ1 : KS, DSt cs df c0 m0 o1 o2 σ μ1 h1 ∧ h1 o1 = hh o1 ∧ h1 o2 = hh o2 ∧ om_release μ x0 r μ1) (mB D hh sz) (mA hh sz)) 0 0 (mA hh sz) := by
  obtain ⟨L, B, hL, rfl, hW⟩ := hS
  refine m_mono (c_X5_release sz hW.2.1 x0) (m_moni (fun r h1 p => ?_))
  obtain ⟨μ1, hM, p⟩ := p
  exact ⟨μ1, ⟨L, B, hL, rfl, (hW.ref hM).1⟩, (hW.ref hM).2.1, (hW.ref hM).2.2, p⟩
theorem w_X5_holderOf {l : Launch} {D : va_G} {cs : mC} {df c0 m0 o1 o2 : Nat} {σ μ : KS} {hh : mH} (sz : Nat) (hS : DSt cs df c0 m0 o1 o2 σ μ hh) (x0 : Int32) : Met l yX5_holderOf wsX5_holderOf ({ frames := 2, cells := 0, slots := 0, locals := 45 }) (mPre [.ref m0, .int x0] D cs df hh sz) (va_Qi (fun (r : Int32) (h1 : mH) => ∃ μ1 : KS, DSt cs df c0 m0 o1 o2 σ μ1 h1 ∧ h1 o1 = hh o1 ∧ h1 o2 = hh o2 ∧ om_holderOf μ x0 r μ1) (mB D hh sz) (mA hh sz)) 0 0 (mA hh sz) := by
  obtain ⟨L, B, hL, rfl, hW⟩ := hS
  refine m_mono (c_X5_holderOf sz hW.2.1 x0) (m_moni (fun r h1 p => ?_))
  obtain ⟨μ1, hM, p⟩ := p
  exact ⟨μ1, ⟨L, B, hL, rfl, (hW.ref hM).1⟩, (hW.ref hM).2.1, (hW.ref hM).2.2, p⟩
theorem w_X5_waiterAt {l : Launch} {D : va_G} {cs : mC} {df c0 m0 o1 o2 : Nat} {σ μ : KS} {hh : mH} (sz : Nat) (hS : DSt cs df c0 m0 o1 o2 σ μ hh) (x0 : Int32) (x1 : Int32) : Met l yX5_waiterAt wsX5_waiterAt ({ frames := 2, cells := 0, slots := 0, locals := 45 }) (mPre [.ref m0, .int x0, .int x1] D cs df hh sz) (va_Qi (fun (r : Int32) (h1 : mH) => ∃ μ1 : KS, DSt cs df c0 m0 o1 o2 σ μ1 h1 ∧ h1 o1 = hh o1 ∧ h1 o2 = hh o2 ∧ om_waiterAt μ x0 x1 r μ1) (mB D hh sz) (mA hh sz)) 0 0 (mA hh sz) := by
  obtain ⟨L, B, hL, rfl, hW⟩ := hS
  refine m_mono (c_X5_waiterAt sz hW.2.1 x0 x1) (m_moni (fun r h1 p => ?_))
  obtain ⟨μ1, hM, p⟩ := p
  exact ⟨μ1, ⟨L, B, hL, rfl, (hW.ref hM).1⟩, (hW.ref hM).2.1, (hW.ref hM).2.2, p⟩
theorem w_X5_choice {l : Launch} {D : va_G} {cs : mC} {df c0 m0 o1 o2 : Nat} {σ μ : KS} {hh : mH} (sz : Nat) (hS : DSt cs df c0 m0 o1 o2 σ μ hh) (x0 : Int32) : Met l yX5_choice wsX5_choice ({ frames := 10, cells := 0, slots := 0, locals := 242 }) (mPre [.ref m0, .int x0] D cs df hh sz) (va_Qi (fun (r : Int32) (h1 : mH) => ∃ μ1 : KS, DSt cs df c0 m0 o1 o2 σ μ1 h1 ∧ h1 o1 = hh o1 ∧ h1 o2 = hh o2 ∧ om_choice μ x0 r μ1) (mB D hh sz) (mA hh sz)) 0 0 (mA hh sz) := by
  obtain ⟨L, B, hL, rfl, hW⟩ := hS
  refine m_mono (c_X5_choice sz hW.2.1 x0) (m_moni (fun r h1 p => ?_))
  obtain ⟨μ1, hM, p⟩ := p
  exact ⟨μ1, ⟨L, B, hL, rfl, (hW.ref hM).1⟩, (hW.ref hM).2.1, (hW.ref hM).2.2, p⟩
theorem w_X5_choiceByComparing {l : Launch} {D : va_G} {cs : mC} {df c0 m0 o1 o2 : Nat} {σ μ : KS} {hh : mH} (sz : Nat) (hS : DSt cs df c0 m0 o1 o2 σ μ hh) (x0 : Int32) : Met l yX5_choiceByComparing wsX5_choiceByComparing ({ frames := 11, cells := 0, slots := 0, locals := 263 }) (mPre [.ref m0, .int x0] D cs df hh sz) (va_Qi (fun (r : Int32) (h1 : mH) => ∃ μ1 : KS, DSt cs df c0 m0 o1 o2 σ μ1 h1 ∧ h1 o1 = hh o1 ∧ h1 o2 = hh o2 ∧ om_choiceByComparing μ x0 r μ1) (mB D hh sz) (mA hh sz)) 0 0 (mA hh sz) := by
  obtain ⟨L, B, hL, rfl, hW⟩ := hS
  refine m_mono (c_X5_choiceByComparing sz hW.2.1 x0) (m_moni (fun r h1 p => ?_))
  obtain ⟨μ1, hM, p⟩ := p
  exact ⟨μ1, ⟨L, B, hL, rfl, (hW.ref hM).1⟩, (hW.ref hM).2.1, (hW.ref hM).2.2, p⟩
theorem w_X5_pass {l : Launch} {D : va_G} {cs : mC} {df c0 m0 o1 o2 : Nat} {σ μ : KS} {hh : mH} (sz : Nat) (hS : DSt cs df c0 m0 o1 o2 σ μ hh) (x0 : Int32) (hdI : dI μ) : Met l yX5_pass wsX5_pass ({ frames := 11, cells := 0, slots := 0, locals := 265 }) (mPre [.ref m0, .int x0] D cs df hh sz) (va_Qi (fun (r : Int32) (h1 : mH) => ∃ μ1 : KS, DSt cs df c0 m0 o1 o2 σ μ1 h1 ∧ h1 o1 = hh o1 ∧ h1 o2 = hh o2 ∧ om_pass μ x0 r μ1) (mB D hh sz) (mA hh sz)) 0 0 (mA hh sz) := by
  obtain ⟨L, B, hL, rfl, hW⟩ := hS
  refine m_mono (c_X5_pass sz hW.2.1 x0 hdI) (m_moni (fun r h1 p => ?_))
  obtain ⟨μ1, hM, p⟩ := p
  exact ⟨μ1, ⟨L, B, hL, rfl, (hW.ref hM).1⟩, (hW.ref hM).2.1, (hW.ref hM).2.2, p⟩
theorem w_X5_usedShare {l : Launch} {D : va_G} {cs : mC} {df c0 m0 o1 o2 : Nat} {σ μ : KS} {hh : mH} (sz : Nat) (hS : DSt cs df c0 m0 o1 o2 σ μ hh) (hnn : ¬ kI μ 29 0 = 0 → vf_n32 (FP.fdiv (FP.i2f (kI μ 28 0)) (FP.i2f (kI μ 29 0)))) : Met l yX5_usedShare wsX5_usedShare ({ frames := 0, cells := 0, slots := 0, locals := 0 }) (mPre [.ref m0] D cs df hh sz) (va_Qf (fun (r : UInt32) (h1 : mH) => ∃ μ1 : KS, DSt cs df c0 m0 o1 o2 σ μ1 h1 ∧ h1 o1 = hh o1 ∧ h1 o2 = hh o2 ∧ om_usedShare μ  r μ1) (mB D hh sz) (mA hh sz)) 0 0 (mA hh sz) := by
  obtain ⟨L, B, hL, rfl, hW⟩ := hS
  refine m_mono (c_X5_usedShare sz hW.2.1 hnn) (m_monf' (fun r h1 p => ?_))
  obtain ⟨μ1, hM, p⟩ := p
  exact ⟨μ1, ⟨L, B, hL, rfl, (hW.ref hM).1⟩, (hW.ref hM).2.1, (hW.ref hM).2.2, p⟩
theorem w_X5_meanHeat {l : Launch} {D : va_G} {cs : mC} {df c0 m0 o1 o2 : Nat} {σ μ : KS} {hh : mH} (sz : Nat) (hS : DSt cs df c0 m0 o1 o2 σ μ hh) (hnn : ¬ kN μ 3 0 = 0 → vf_n64 (FP.ddiv (FP.i2d (sumI (fun c => kI μ 2 c) (kN μ 3 0))) (FP.i2d (nI (kN μ 3 0))))) : Met l yX5_meanHeat wsX5_meanHeat ({ frames := 0, cells := 0, slots := 0, locals := 0 }) (mPre [.ref m0] D cs df hh sz) (va_Qd (fun (r : UInt64) (h1 : mH) => ∃ μ1 : KS, DSt cs df c0 m0 o1 o2 σ μ1 h1 ∧ h1 o1 = hh o1 ∧ h1 o2 = hh o2 ∧ om_meanHeat μ  r μ1) (mB D hh sz) (mA hh sz)) 0 0 (mA hh sz) := by
  obtain ⟨L, B, hL, rfl, hW⟩ := hS
  refine m_mono (c_X5_meanHeat sz hW.2.1 hnn) (m_mond' (fun r h1 p => ?_))
  obtain ⟨μ1, hM, p⟩ := p
  exact ⟨μ1, ⟨L, B, hL, rfl, (hW.ref hM).1⟩, (hW.ref hM).2.1, (hW.ref hM).2.2, p⟩
theorem w_X5_admitted {l : Launch} {D : va_G} {cs : mC} {df c0 m0 o1 o2 : Nat} {σ μ : KS} {hh : mH} (sz : Nat) (hS : DSt cs df c0 m0 o1 o2 σ μ hh)  : Met l yX5_admitted wsX5_admitted ({ frames := 2, cells := 0, slots := 0, locals := 43 }) (mPre [.ref m0] D cs df hh sz) (va_Qi (fun (r : Int32) (h1 : mH) => ∃ μ1 : KS, DSt cs df c0 m0 o1 o2 σ μ1 h1 ∧ h1 o1 = hh o1 ∧ h1 o2 = hh o2 ∧ μ1 = thS μ 0 ∧ r = (shsM μ)) (mB D hh sz) (mA hh sz)) 0 0 (mA hh sz) := by
  obtain ⟨L, B, hL, rfl, hW⟩ := hS
  refine m_mono (c_X5_admitted sz hW.2.1 ) (m_moni (fun r h1 p => ?_))
  obtain ⟨hM, p⟩ := p
  exact ⟨_, ⟨L, B, hL, rfl, (hW.ref hM).1⟩, (hW.ref hM).2.1, (hW.ref hM).2.2, rfl, p⟩
theorem w_X5_promise {l : Launch} {D : va_G} {cs : mC} {df c0 m0 o1 o2 : Nat} {σ μ : KS} {hh : mH} (sz : Nat) (hS : DSt cs df c0 m0 o1 o2 σ μ hh)  : Met l yX5_promise wsX5_promise ({ frames := 1, cells := 0, slots := 0, locals := 22 }) (mPre [.ref m0] D cs df hh sz) (va_Qi (fun (r : Int32) (h1 : mH) => ∃ μ1 : KS, DSt cs df c0 m0 o1 o2 σ μ1 h1 ∧ h1 o1 = hh o1 ∧ h1 o2 = hh o2 ∧ μ1 = thS μ 0 ∧ r = (prM μ)) (mB D hh sz) (mA hh sz)) 0 0 (mA hh sz) := by
  obtain ⟨L, B, hL, rfl, hW⟩ := hS
  refine m_mono (c_X5_promise sz hW.2.1 ) (m_moni (fun r h1 p => ?_))
  obtain ⟨hM, p⟩ := p
  exact ⟨_, ⟨L, B, hL, rfl, (hW.ref hM).1⟩, (hW.ref hM).2.1, (hW.ref hM).2.2, rfl, p⟩
theorem w_X5_misses {l : Launch} {D : va_G} {cs : mC} {df c0 m0 o1 o2 : Nat} {σ μ : KS} {hh : mH} (sz : Nat) (hS : DSt cs df c0 m0 o1 o2 σ μ hh)  : Met l yX5_misses wsX5_misses ({ frames := 0, cells := 0, slots := 0, locals := 0 }) (mPre [.ref m0] D cs df hh sz) (va_Qi (fun (r : Int32) (h1 : mH) => ∃ μ1 : KS, DSt cs df c0 m0 o1 o2 σ μ1 h1 ∧ h1 o1 = hh o1 ∧ h1 o2 = hh o2 ∧ μ1 = thS μ 0 ∧ r = (sumI (fun t => kI μ 18 t) (kN μ 24 0))) (mB D hh sz) (mA hh sz)) 0 0 (mA hh sz) := by
  obtain ⟨L, B, hL, rfl, hW⟩ := hS
  refine m_mono (c_X5_misses sz hW.2.1 ) (m_moni (fun r h1 p => ?_))
  obtain ⟨hM, p⟩ := p
  exact ⟨_, ⟨L, B, hL, rfl, (hW.ref hM).1⟩, (hW.ref hM).2.1, (hW.ref hM).2.2, rfl, p⟩
theorem w_X5_now {l : Launch} {D : va_G} {cs : mC} {df c0 m0 o1 o2 : Nat} {σ μ : KS} {hh : mH} (sz : Nat) (hS : DSt cs df c0 m0 o1 o2 σ μ hh)  : Met l yX5_now wsX5_now ({ frames := 0, cells := 0, slots := 0, locals := 0 }) (mPre [.ref m0] D cs df hh sz) (va_Qi (fun (r : Int32) (h1 : mH) => ∃ μ1 : KS, DSt cs df c0 m0 o1 o2 σ μ1 h1 ∧ h1 o1 = hh o1 ∧ h1 o2 = hh o2 ∧ μ1 = thS μ 0 ∧ r = (kI μ 0 0)) (mB D hh sz) (mA hh sz)) 0 0 (mA hh sz) := by
  obtain ⟨L, B, hL, rfl, hW⟩ := hS
  refine m_mono (c_X5_now sz hW.2.1 ) (m_moni (fun r h1 p => ?_))
  obtain ⟨hM, p⟩ := p
  exact ⟨_, ⟨L, B, hL, rfl, (hW.ref hM).1⟩, (hW.ref hM).2.1, (hW.ref hM).2.2, rfl, p⟩
theorem w_X5_moves {l : Launch} {D : va_G} {cs : mC} {df c0 m0 o1 o2 : Nat} {σ μ : KS} {hh : mH} (sz : Nat) (hS : DSt cs df c0 m0 o1 o2 σ μ hh)  : Met l yX5_moves wsX5_moves ({ frames := 0, cells := 0, slots := 0, locals := 0 }) (mPre [.ref m0] D cs df hh sz) (va_Qi (fun (r : Int32) (h1 : mH) => ∃ μ1 : KS, DSt cs df c0 m0 o1 o2 σ μ1 h1 ∧ h1 o1 = hh o1 ∧ h1 o2 = hh o2 ∧ μ1 = thS μ 0 ∧ r = (kI μ 27 0)) (mB D hh sz) (mA hh sz)) 0 0 (mA hh sz) := by
  obtain ⟨L, B, hL, rfl, hW⟩ := hS
  refine m_mono (c_X5_moves sz hW.2.1 ) (m_moni (fun r h1 p => ?_))
  obtain ⟨hM, p⟩ := p
  exact ⟨_, ⟨L, B, hL, rfl, (hW.ref hM).1⟩, (hW.ref hM).2.1, (hW.ref hM).2.2, rfl, p⟩
theorem w_X5_isSound {l : Launch} {D : va_G} {cs : mC} {df c0 m0 o1 o2 : Nat} {σ μ : KS} {hh : mH} (sz : Nat) (hS : DSt cs df c0 m0 o1 o2 σ μ hh)  : Met l yX5_isSound wsX5_isSound ({ frames := 0, cells := 0, slots := 0, locals := 0 }) (mPre [.ref m0] D cs df hh sz) (va_Qi (fun (r : Int32) (h1 : mH) => ∃ μ1 : KS, DSt cs df c0 m0 o1 o2 σ μ1 h1 ∧ h1 o1 = hh o1 ∧ h1 o2 = hh o2 ∧ μ1 = thS μ 0 ∧ r = bI true) (mB D hh sz) (mA hh sz)) 0 0 (mA hh sz) := by
  obtain ⟨L, B, hL, rfl, hW⟩ := hS
  refine m_mono (c_X5_isSound sz hW.2.1 ) (m_moni (fun r h1 p => ?_))
  obtain ⟨hM, p⟩ := p
  exact ⟨_, ⟨L, B, hL, rfl, (hW.ref hM).1⟩, (hW.ref hM).2.1, (hW.ref hM).2.2, rfl, p⟩
theorem w_X5_thrown {l : Launch} {D : va_G} {cs : mC} {df c0 m0 o1 o2 : Nat} {σ μ : KS} {hh : mH} (sz : Nat) (hS : DSt cs df c0 m0 o1 o2 σ μ hh) : Met l yX5_thrown wsX5_thrown ({ frames := 0, cells := 0, slots := 0, locals := 0 }) (mPre [.ref m0] D cs df hh sz) (va_Qi (fun (r : Int32) (h1 : mH) => h1 = hh ∧ r = kI μ 33 0) (mB D hh sz) (mA hh sz)) 0 0 (mA hh sz) := by
  obtain ⟨L, B, hL, rfl, hW⟩ := hS
  exact c_X5_thrown sz hW.2.1
