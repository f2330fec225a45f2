/-! DOUBLES THAT ARE NUMBERS -/
theorem n64_of {a : UInt64} (h : Jvm.FP.Core.val64 a ≠ .nan) : vf_n64 a := by
  unfold vf_n64
  rw [UInt64.le_iff_toNat_le, Jvm.FP.Core.mask_toNat]
  exact (Jvm.FP.Core.ne_nan a).mp h
/-- a number that is not below 0, or the greater infinity -/
def Nng (a : UInt64) : Prop := (∃ c q, Jvm.FP.Core.val64 a = .fin false c q) ∨ Jvm.FP.Core.val64 a = .inf false
theorem nng_nn {a : UInt64} (h : Nng a) : Jvm.FP.Core.val64 a ≠ .nan := fun e => by
  rcases h with ⟨c, q, h⟩ | h <;> rw [e] at h <;> cases h
def NngD (d : Jvm.FP.Core.Datum) : Prop := (∃ c q, d = .fin false c q) ∨ d = .inf false
theorem nng_ratio (num den : Nat) (e : Int) : NngD (Jvm.FP.Core.roundRatio Jvm.FP.Core.b64 false num den e) := by
  unfold Jvm.FP.Core.roundRatio Jvm.FP.Core.roundAt Jvm.FP.Core.settle Jvm.FP.Core.bound
  by_cases c : num = 0
  · rw [if_pos c]
    exact Or.inl ⟨_, _, rfl⟩
  · rw [if_neg c]
    split
    · split
      · exact Or.inl ⟨_, _, rfl⟩
      · exact Or.inr rfl
    · split
      · exact Or.inl ⟨_, _, rfl⟩
      · exact Or.inr rfl
theorem nng_round {d : Jvm.FP.Core.Datum} (h : NngD d) : NngD (Jvm.FP.Core.round Jvm.FP.Core.b64 d) := by
  rcases h with ⟨c, q, rfl⟩ | rfl
  · exact nng_ratio c 1 q
  · exact Or.inr rfl
theorem nng_l2d {z : Int} (h : Rg z) (h0 : 0 ≤ z) : Nng (FP.l2d (i6 z)) := by
  unfold Nng
  rw [Jvm.FP.Core.val64_l2d, to_i6 h]
  have e : decide (z < 0) = false := decide_eq_false (by omega)
  have : Jvm.FP.Core.ofInt z = .fin false z.natAbs 0 := by
    unfold Jvm.FP.Core.ofInt
    rw [e]
  rw [this]
  exact nng_ratio _ _ _
theorem nng_add {a b : UInt64} (ha : Nng a) (hb : Nng b) : Nng (FP.dadd a b) := by
  unfold Nng
  rw [Jvm.FP.Core.val64_dadd]
  refine nng_round ?_
  rcases ha with ⟨c, q, ha⟩ | ha <;> rcases hb with ⟨d, r, hb⟩ | hb <;> rw [ha, hb]
  · have : Jvm.FP.Core.sumSign false false (Jvm.FP.Core.sumUnits false c q false d r (min q r)) = false := by
      show (if (((Jvm.FP.Core.inUnits c q (min q r) : Nat) : Int) + ((Jvm.FP.Core.inUnits d r (min q r) : Nat) : Int)) = 0 then (false && false) else decide ((((Jvm.FP.Core.inUnits c q (min q r) : Nat) : Int) + ((Jvm.FP.Core.inUnits d r (min q r) : Nat) : Int)) < 0)) = false
      generalize Jvm.FP.Core.inUnits c q (min q r) = u
      generalize Jvm.FP.Core.inUnits d r (min q r) = v
      by_cases c0 : (u : Int) + (v : Int) = 0
      · rw [if_pos c0]
        rfl
      · rw [if_neg c0]
        exact decide_eq_false (by omega)
    show NngD (.fin (Jvm.FP.Core.sumSign false false (Jvm.FP.Core.sumUnits false c q false d r (min q r))) (Jvm.FP.Core.sumUnits false c q false d r (min q r)).natAbs (min q r))
    rw [this]
    exact Or.inl ⟨_, _, rfl⟩
  · exact Or.inr rfl
  · exact Or.inr rfl
  · exact Or.inr rfl
/-- a number from a whole one that is above 0 -/
def Pfin (a : UInt64) : Prop := ∃ c q, Jvm.FP.Core.val64 a = .fin false c q ∧ c ≠ 0
theorem pfin_whole {i : Int} {a : UInt64} (h : Jvm.FP.Core.DInt i a) (h0 : 0 < i) : Pfin a := by
  unfold Jvm.FP.Core.DInt at h
  unfold Pfin
  cases e : Jvm.FP.Core.val64 a with
  | nan => rw [e] at h; exact h.elim
  | inf s => rw [e] at h; exact h.elim
  | fin s c q =>
    rw [e] at h
    have hw : Jvm.FP.Core.signed s (c * 2 ^ q.toNat) = i * ((2 ^ (-q).toNat : Nat) : Int) := h
    have hp : (0 : Int) < i * ((2 ^ (-q).toNat : Nat) : Int) := Int.mul_pos h0 (by have := Nat.two_pow_pos (-q).toNat; omega)
    unfold Jvm.FP.Core.signed at hw
    cases s with
    | true =>
      rw [if_pos rfl] at hw
      omega
    | false =>
      rw [if_neg (by decide)] at hw
      refine ⟨c, q, rfl, fun hc => ?_⟩
      rw [hc, Nat.zero_mul] at hw
      omega
theorem pfin_l2d {z : Int} (h0 : 0 < z) (h : z ≤ 9007199254740992) : Pfin (FP.l2d (i6 z)) := by
  have e := to_i6 (z := z) (by unfold Rg; omega)
  have := Jvm.FP.Core.l2d_int (a := i6 z) (by rw [e]; omega)
  rw [e] at this
  exact pfin_whole this h0
theorem pfin_i2d {n : Nat} (h0 : 0 < n) (h : n < 1000) : Pfin (FP.i2d (nI n)) := by
  have := Jvm.FP.Core.i2d_int (nI n)
  rw [nI_toInt (by omega)] at this
  exact pfin_whole this (by omega)
theorem nng_div {a b : UInt64} (ha : Nng a) (hb : Pfin b) : Nng (FP.ddiv a b) := by
  obtain ⟨d, r, hb, h0⟩ := hb
  unfold Nng
  rw [Jvm.FP.Core.val64_ddiv, hb]
  rcases ha with ⟨c, q, ha⟩ | ha <;> rw [ha]
  · show NngD (if d = 0 then (if c = 0 then .nan else .inf (false != false)) else Jvm.FP.Core.roundRatio Jvm.FP.Core.b64 (false != false) c d (q - r))
    rw [if_neg h0]
    exact nng_ratio _ _ _
  · exact Or.inr rfl
theorem nng_0 : Nng FP.dconst0 := by
  have h : Jvm.FP.Core.val64 FP.dconst0 = .fin false 0 Jvm.FP.Core.b64.qmin := by decide +kernel
  exact Or.inl ⟨_, _, h⟩
theorem dcmp_s {a : UInt64} (h : Jvm.FP.Core.val64 a ≠ .nan) : Op.cmpValue (FP.dcmp a a) .l = 0 := by
  have e : FP.dcmp a a = some .eq := Jvm.FP.Core.dcmp_self h
  rw [e]
  rfl
/-- the shares of driven shafts -/
theorem shr_ok : ∀ b, b < 15 → ∀ a, a ≤ b → 0 < b → (vf_n32 (FP.fdiv (FP.i2f (nI a)) (FP.i2f (nI b))) ∧ vf_n64 (FP.f2d (FP.fdiv (FP.i2f (nI a)) (FP.i2f (nI b)))) ∧ Op.cmpValue (FP.dcmp (FP.f2d (FP.fdiv (FP.i2f (nI a)) (FP.i2f (nI b)))) (FP.f2d (FP.fdiv (FP.i2f (nI a)) (FP.i2f (nI b))))) .l = 0) := by
  unfold vf_n32 vf_n64
  decide +kernel
