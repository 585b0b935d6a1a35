def pdL (σ : KS) : Nat → Nat → Option Nat
  | 0, _ => none
  | n + 1, g => match lgS σ g (kN σ 62 1) with
    | none => ltS σ g (kN σ 62 2)
    | some b => match ltS σ g (kN σ 62 2) with
      | none => pdL σ n b
      | some t => if kW σ 33 t < kW σ 23 b then some t else pdL σ n b
def pdO (σ : KS) : Option Nat := match (muS σ (kN σ 62 2)).1 with
  | some t => some t
  | none => pdL (markS σ) 6 0
def pdSt (σ : KS) : KS := match (muS σ (kN σ 62 2)).1 with
  | some _ => σ
  | none => markS σ
theorem pdO_n {σ : KS} (h : (muS σ (kN σ 62 2)).1 = none) : pdO σ = pdL (markS σ) 6 0 := by unfold pdO; rw [h]
theorem markS_N (σ : KS) : kN (markS σ) = kN σ := by unfold markS; rw [mkS_N, clrS_N]
