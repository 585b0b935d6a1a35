/-! THE LAW'S HELPERS: what they are called with, and what lies in the row for the answer -/
def nwC : List (String × String) := [("java/lang/IllegalStateException", "java/lang/IllegalArgumentException"), ("java/lang/IllegalArgumentException", "java/lang/IndexOutOfBoundsException"), ("java/lang/IllegalStateException", "java/lang/IndexOutOfBoundsException"), ("java/lang/UnsupportedOperationException", "java/lang/IndexOutOfBoundsException"), ("java/lang/UnsupportedOperationException", "java/lang/IllegalArgumentException"), ("java/lang/IllegalStateException", "java/lang/UnsupportedOperationException"), ("java/lang/IllegalStateException", "java/util/NoSuchElementException"), ("java/lang/UnsupportedOperationException", "java/util/NoSuchElementException"), ("java/lang/IndexOutOfBoundsException", "java/util/NoSuchElementException"), ("java/lang/UnsupportedOperationException", "java/lang/IllegalStateException"), ("java/util/NoSuchElementException", "java/lang/IndexOutOfBoundsException")]
def mN (U : State) : Prop := ∀ q ∈ nwC, va_Nc q.1 q.2 U
theorem mN.moved {u U : State} (hvm : u.vm.Alike U.vm) (h : mN u) : mN U := fun q hq => va_Nc.moved hvm (h q hq)
def lPre (av : List Value) (D : va_G) (c : mC) (df : Nat) (h : mH) (sz : Nat) : Array Value → State → Prop := va_Pc av (fun U => (U.heap.size = sz ∧ mV D h (mA h sz) U.heap ∧ mE D c df (mA h sz) U) ∧ mN U)
section LP
variable {s : State} {H : Heap} {locs : List Loc} {D : va_G} {A A0 : Nat → Prop} {h : mH} {df sz : Nat} {cs : mC} {av As : List Value}
theorem l_blind : FrameBlind (lPre av D cs df h sz) := fun a U g mk q => ⟨q.1, ⟨q.2.1.1, q.2.1.2.1, q.2.1.2.2.call⟩, mN.moved (u := U) (U := U.calling g mk a) (Vm.Alike.refl U.vm) q.2.2⟩
theorem l_preS (hN : mN s) (hE : mE D cs df A s) (hV : mV D h A H) (hS : va_S A s.heap H locs) (hA : ∀ q, s.heap.size ≤ q → A q) : PreS s H (lPre As D cs df h H.size) As := by
  refine ⟨l_blind, fun U hU hW => ?_⟩
  obtain ⟨a, b⟩ := m_pre (As := As) hE hV hS hA U hU hW
  exact ⟨a, b, hN.moved hW.alike⟩
end LP
/-- the rows for the answers: one long, one double -/
def oL (cs : mC) (h : mH) (o : Nat) (v : Int64) : Prop := ∃ f : Nat → Int64, h o = some (.inl (cs.2.1, 1, .inr (.inl f))) ∧ f 0 = v
def oD (cs : mC) (h : mH) (o : Nat) (v : UInt64) : Prop := ∃ f : Nat → UInt64, h o = some (.inl (cs.2.2.2.1, 1, .inr (.inr (.inr (.inl f))))) ∧ f 0 = v
theorem CRep.out {cs : mC} {df : Nat} {P : Nat → Prop} {h0 h : mH} {L : KL} {σ : KS} (hC : CRep cs df P h0 L σ h) {a : Nat} (ha : ¬ P a) : h a = h0 a := by
  obtain ⟨R, hC⟩ := hC
  exact hC.2.2.1.1 a ha
theorem DRep.out {cs : mC} {P : Nat → Prop} {h0 h : mH} {B : Nat → Nat} {μ : KS} (hM : DRep cs P h0 B μ h) {a : Nat} (ha : ¬ P a) : h a = h0 a := hM.2.2.1.1 a ha
