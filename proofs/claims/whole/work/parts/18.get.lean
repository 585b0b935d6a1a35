theorem m_lc {i : Nat} {v v1 : Value} {t t1 : List (Nat × Value)} (h : v = v1) (ht : t = t1) : (i, v) :: t = (i, v1) :: t1 := by subst h; subst ht; rfl
section LGET
variable {l : Launch} {D : va_G} {cs : mC} {df : Nat} {P : Nat → Prop} {h0 hh : mH} {L : KL} {R : KR} {σ : KS}
theorem l_get0 (sz : Nat) (hC : CRep cs df P h0 L σ hh) (i : Nat) (hi : i < kN σ 62 0) : Met l yJx4a65c_get_915e3 wsJx4a65c_get_915e3 { frames := 2, cells := 0, slots := 0, locals := 43 } (mPre [.ref (L 5 0), .int (nI i)] D cs df hh sz) (va_Qq (fun (r : Option Nat) (h1 : mH) => h1 = hh ∧ r = some (L 1 i)) (mB D hh sz) (mA hh sz)) 0 0 (mA hh sz) := l_get sz hC 0 i (by decide) hi
theorem l_get1 (sz : Nat) (hC : CRep cs df P h0 L σ hh) (i : Nat) (hi : i < kN σ 62 1) : Met l yJx4a65c_get_915e3 wsJx4a65c_get_915e3 { frames := 2, cells := 0, slots := 0, locals := 43 } (mPre [.ref (L 5 1), .int (nI i)] D cs df hh sz) (va_Qq (fun (r : Option Nat) (h1 : mH) => h1 = hh ∧ r = some (L 2 i)) (mB D hh sz) (mA hh sz)) 0 0 (mA hh sz) := l_get sz hC 1 i (by decide) hi
theorem l_get2 (sz : Nat) (hC : CRep cs df P h0 L σ hh) (i : Nat) (hi : i < kN σ 62 2) : Met l yJx4a65c_get_915e3 wsJx4a65c_get_915e3 { frames := 2, cells := 0, slots := 0, locals := 43 } (mPre [.ref (L 5 2), .int (nI i)] D cs df hh sz) (va_Qq (fun (r : Option Nat) (h1 : mH) => h1 = hh ∧ r = some (L 3 i)) (mB D hh sz) (mA hh sz)) 0 0 (mA hh sz) := l_get sz hC 2 i (by decide) hi
theorem l_get3 (sz : Nat) (hC : CRep cs df P h0 L σ hh) (i : Nat) (hi : i < kN σ 62 3) : Met l yJx4a65c_get_915e3 wsJx4a65c_get_915e3 { frames := 2, cells := 0, slots := 0, locals := 43 } (mPre [.ref (L 5 3), .int (nI i)] D cs df hh sz) (va_Qq (fun (r : Option Nat) (h1 : mH) => h1 = hh ∧ r = some (L 4 i)) (mB D hh sz) (mA hh sz)) 0 0 (mA hh sz) := l_get sz hC 3 i (by decide) hi
theorem wf_par {g k : Nat} (hw : cWF σ) (hg : g < kN σ 62 1) (h : kO σ 20 g = some k) : k < g ∧ k < kN σ 62 1 := by
  obtain ⟨a, b⟩ := hw.2.2.2.2.1
  by_cases z : g = 0
  · subst z
    rw [a] at h
    cases h
  · obtain ⟨r, h1, h2⟩ := b g (by omega) hg
    cases h1.symm.trans h
    exact ⟨h2, by omega⟩
theorem kd_w (w : Nat) : kd (4 + w) = 3 := by unfold kd; rw [if_neg (by omega), if_neg (by omega), if_neg (by omega), if_neg (by omega)]
theorem kE_w (σ : KS) (w i : Nat) : kE σ (4 + w) i = (kL σ (4 + w)).getD i 0 := by unfold kE; rw [if_neg (by omega)]
theorem l_getW (sz : Nat) (hC : CRep cs df P h0 L σ hh) (w i : Nat) (hj : w < 4) (hi : i < kN σ 62 (4 + w)) : Met l yJx4a65c_get_915e3 wsJx4a65c_get_915e3 { frames := 2, cells := 0, slots := 0, locals := 43 } (mPre [.ref (L 5 (4 + w)), .int (nI i)] D cs df hh sz) (va_Qq (fun (r : Option Nat) (h1 : mH) => h1 = hh ∧ r = some (L 3 ((kL σ (4 + w)).getD i 0))) (mB D hh sz) (mA hh sz)) 0 0 (mA hh sz) := by
  have := l_get (l := l) (D := D) sz hC (4 + w) i (by omega) hi
  rw [kd_w, kE_w] at this
  exact this
end LGET
