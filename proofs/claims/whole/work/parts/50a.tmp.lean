def lGrow (σ : KS) (j : Nat) : KS := sN (sN (sI σ 60 (va_up (kI σ 60) j (kI σ 60 j + 1))) 61 (va_up (kN σ 61) j (ncap (kN σ 61 j) (kN σ 62 j)))) 62 (va_up (kN σ 62) j (kN σ 62 j + 1))
def Lnew (L : KL) (k0 n q : Nat) : KL := fun k i => if k = k0 ∧ i = n then q else L k i
def coreN (σ : KS) (x : Int32) : KS := sO (sI (sI σ 10 (va_up (kI σ 10) (kN σ 62 0) x)) 11 (va_up (kI σ 11) (kN σ 62 0) 0)) 12 (va_up (kO σ 12) (kN σ 62 0) none)
def grpN (σ : KS) (g : Nat) (u : Int32) (t : Int64) : KS := sB (sI (sW (sI (sO σ 20 (va_up (kO σ 20) (kN σ 62 1) (some g))) 22 (va_up (kI σ 22) (kN σ 62 1) u)) 23 (va_up (kW σ 23) (kN σ 62 1) t)) 24 (va_up (kI σ 24) (kN σ 62 1) 0)) 25 (va_up (kB σ 25) (kN σ 62 1) false)
def tskN (σ : KS) (g : Nat) (u : Int32) (t : Int64) (le pe bu sh dl : Int32) : KS :=
  sB (sI (sO (sO (sI (sI (sI (sI (sI (sB (sI (sI (sW (sI (sN σ 31 (va_up (kN σ 31) (kN σ 62 2) g)) 32 (va_up (kI σ 32) (kN σ 62 2) u)) 33 (va_up (kW σ 33) (kN σ 62 2) t)) 34 (va_up (kI σ 34) (kN σ 62 2) le)) 35 (va_up (kI σ 35) (kN σ 62 2) 0)) 36 (va_up (kB σ 36) (kN σ 62 2) false)) 37 (va_up (kI σ 37) (kN σ 62 2) pe)) 38 (va_up (kI σ 38) (kN σ 62 2) bu)) 39 (va_up (kI σ 39) (kN σ 62 2) sh)) 40 (va_up (kI σ 40) (kN σ 62 2) dl)) 41 (va_up (kI σ 41) (kN σ 62 2) 0)) 42 (va_up (kO σ 42) (kN σ 62 2) none)) 43 (va_up (kO σ 43) (kN σ 62 2) none)) 44 (va_up (kI σ 44) (kN σ 62 2) 0)) 45 (va_up (kB σ 45) (kN σ 62 2) false)
def coreS (σ : KS) (x : Int32) : KS := lGrow (coreN σ x) 0
def grpS (σ : KS) (g : Nat) (u : Int32) (t : Int64) : KS := lGrow (grpN σ g u t) 1
def tskS (σ : KS) (g : Nat) (u : Int32) (t : Int64) (le pe bu sh dl : Int32) : KS := lGrow (tskN σ g u t le pe bu sh dl) 2
def stS (σ : KS) (t : Nat) : Int32 := if kB σ 36 t = true then 101 else match kO σ 42 t with
  | some _ => 119
  | none => if readyS σ t = true then 114 else 105
def init0 : KS := (fun f j => if f = 0 then 50 else if f = 1 then 12 else if f = 60 then (if j = 1 then (0 + 1) else if j = 3 then ((((0 + 1) + 1) + 1) + 1) else 0) else 0, fun _ _ => 0, fun f j => if f = 61 then (if j = 1 then 10 else if j = 3 then 10 else 0) else if f = 62 then (if j = 1 then (0 + 1) else if j = 3 then ((((0 + 1) + 1) + 1) + 1) else 0) else 0, fun _ _ => none, fun _ _ => false, fun _ => [])
