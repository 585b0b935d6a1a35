def gbL (σ : KS) : Nat → Option Nat → Option Nat → Option Nat → Option Nat → Option Nat × Option Nat
  | 0, _, _, x, y => (x, y)
  | _ + 1, none, _, x, y => (x, y)
  | _ + 1, some _, none, x, y => (x, y)
  | n + 1, some a, some b, x, y => if a = b then (x, y) else if b < a then gbL σ n (kO σ 20 a) (some b) (some a) y else gbL σ n (some a) (kO σ 20 b) x (some b)
def tmS (σ : KS) (t : Nat) (x : Option Nat) : Int64 := match x with
  | none => kW σ 33 t
  | some g => kW σ 23 g
def gtE (σ : KS) (a b : Nat) (x y : Option Nat) : Bool := if tmS σ a x = tmS σ b y then (match x, y with
    | some u, some v => decide (u < v)
    | none, none => decide (a < b)
    | some _, none => true
    | none, some _ => false) else decide (tmS σ a x < tmS σ b y)
def gtR (σ : KS) (a b : Nat) : Option Nat × Option Nat := gbL σ 12 (some (kN σ 31 a)) (some (kN σ 31 b)) none none
def gtS (σ : KS) (a b : Nat) : Bool := gtE σ a b (gtR σ a b).1 (gtR σ a b).2
theorem gbL_n1 (σ : KS) (n : Nat) (b x y : Option Nat) : gbL σ n none b x y = (x, y) := by cases n <;> rfl
theorem gbL_n2 (σ : KS) (n : Nat) (a x y : Option Nat) : gbL σ n a none x y = (x, y) := by
  cases n with
  | zero => rfl
  | succ n => cases a <;> rfl
theorem gbL_e (σ : KS) (n a : Nat) (x y : Option Nat) : gbL σ n (some a) (some a) x y = (x, y) := by
  cases n with
  | zero => rfl
  | succ n => exact if_pos rfl
def gbS (σ : KS) (a b : Nat) : Bool := if kI σ 44 a = kI σ 44 b then (if kI σ 44 a = 2147483647 then gtS σ a b else decide (a < b)) else decide (kI σ 44 a < kI σ 44 b)
