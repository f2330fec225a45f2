/-! THE CLASS: slacks -/
theorem abs32 {y : Int32} {N : Nat} (hN : N = y.toInt.natAbs) (h : N < 1000000) : (if 0 ≤ y then y else 0 - y) = nI N := by
  have h0y : 0 ≤ y ↔ 0 ≤ y.toInt := Int32.le_iff_toInt_le
  apply Int32.toInt_inj.mp
  rw [nI_toInt (by omega)]
  by_cases c : 0 ≤ y
  · rw [if_pos c]
    have := h0y.mp c
    omega
  · have : ¬ 0 ≤ y.toInt := fun q => c (h0y.mpr q)
    rw [if_neg c, Int32.zero_sub, Int32.toInt_neg, Int.bmod_eq_of_le (by omega) (by omega)]
    omega
section SL9
variable {A E : Nat → Nat} {ls : Nat → List Nat} {nl nc nd : Nat} {S : Hp} {D : Dt} {G : Nat → Nat → Nat}
end SL9
