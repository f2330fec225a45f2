/-! THE CONSTRUCTORS: the reference -/
set_option maxRecDepth 100000
section IM9
variable {F R : Nat → Nat → Option Nat} {X : Nat → Bool} {A : Nat → Nat} {S : Hp} {D : Dt}
def b8 : Nat → Bool := (bu (bus (bu (bus (bus (bu (bu (bus (bu (bus (bu (bus (bu (bus (bu (bu (bu (bu (bu (bu (bu (bu (bu (bu (bu (bu (bu (bu (bu (bu (bu (bu (bu (bu (bu (bu (bu (bu (bu b7 70) 72) 73) 74) 75) 76) 77) 78) 79) 80) 81) 82) 83) 84) 85) 86) 87) 88) 89) 90) 91) 92) 93) 94) 95) 200 8) 96) 210 8) 97) 220 8) 98) 230 8) 99) 100) 300 96) 250 4) 101) 240 4) 102)
end IM9
