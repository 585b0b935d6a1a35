def lmG (σ : KS) (g : Nat) : Nat → Int64
  | 0 => 9223372036854775807
  | n + 1 => if kO σ 20 n = some g then (if kW σ 23 n < lmG σ g n then kW σ 23 n else lmG σ g n) else lmG σ g n
def lmT (σ : KS) (g : Nat) : Nat → Int64
  | 0 => lmG σ g (kN σ 62 1)
  | n + 1 => if kN σ 31 n = g then (if kW σ 33 n < lmT σ g n then kW σ 33 n else lmT σ g n) else lmT σ g n
def leastS (σ : KS) (g : Nat) : Int64 := if lmT σ g (kN σ 62 2) = 9223372036854775807 then 0 else lmT σ g (kN σ 62 2)
