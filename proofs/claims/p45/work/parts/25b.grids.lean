/-! THE CONSTRUCTORS: grids -/
set_option maxRecDepth 100000
section GR9
variable {b : Nat → Bool} {F R : Nat → Nat → Option Nat} {X : Nat → Bool} {A : Nat → Nat} {S : Hp} {D : Dt}
def bus (b : Nat → Bool) (lo m : Nat) : Nat → Bool := fun r => (decide (lo ≤ r) && decide (r < lo + m)) || b r
end GR9
