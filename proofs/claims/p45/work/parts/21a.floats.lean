/-! DOUBLES THAT ARE NUMBERS -/
/-- the shares of driven shafts -/
theorem shr_ok : ∀ b, b < 15 → ∀ a, a ≤ b → 0 < b → (vf_n32 (FP.fdiv (FP.i2f (nI a)) (FP.i2f (nI b))) ∧ vf_n64 (FP.f2d (FP.fdiv (FP.i2f (nI a)) (FP.i2f (nI b)))) ∧ Op.cmpValue (FP.dcmp (FP.f2d (FP.fdiv (FP.i2f (nI a)) (FP.i2f (nI b)))) (FP.f2d (FP.fdiv (FP.i2f (nI a)) (FP.i2f (nI b))))) .l = 0) := by
  unfold vf_n32 vf_n64
  decide +kernel
