/-! THE REFERENCE'S STEP, whole -/
def wmo (G : Nat → Nat → Nat) (nl k : Nat) : Nat := 24 * ((dQ G nl 3 (G k 1)).1 * (if G k 0 = 112 then (dQ G nl 3 (G k 2)).1 else 1))
def wbo (G : Nat → Nat → Nat) (nl k : Nat) : Nat := if G k 0 = 112 then (dQ G nl 3 (G k 1)).2 * (dQ G nl 3 (G k 2)).1 + (dQ G nl 3 (G k 2)).2 * (dQ G nl 3 (G k 1)).1 else (dQ G nl 3 (G k 1)).2
def BdW (G : Nat → Nat → Nat) (nl n : Nat) (W : Nat → Rat) : Prop := ∀ k, k < nl → Bd (wmo G nl k) (n * wbo G nl k) (W k)
def wnx (G : Nat → Nat → Nat) (act : Nat → Bool) (tn W : Nat → Rat) (k : Nat) : Rat := if act k = true then W k + aq (tn (G k 1)) + (if G k 0 = 112 then aq (tn (G k 2)) else 0) else W k
theorem w_num {ns nl k : Nat} {G : Nat → Nat → Nat} {lv : Nat → Nat} (hG : GrOK ns nl G) (hL : Lev nl G lv) (hk : k < nl) : 0 < wmo G nl k ∧ wmo G nl k ≤ 1200000000000 ∧ wbo G nl k ≤ 100000000000 := by
  obtain ⟨r1, r2, r3, r4, r5⟩ := src_le hG hL hk
  unfold wmo wbo
  by_cases hp : G k 0 = 112
  · obtain ⟨r6, r7⟩ := r5 hp
    rw [if_pos hp, if_pos hp]
    have l1 : (dQ G nl 3 (G k 1)).1 * (dQ G nl 3 (G k 2)).1 ≤ 216000 * 216000 := Nat.mul_le_mul r2 r6
    have l2 : (dQ G nl 3 (G k 1)).2 * (dQ G nl 3 (G k 2)).1 ≤ 216000 * 216000 := Nat.mul_le_mul r3 r6
    have l3 : (dQ G nl 3 (G k 2)).2 * (dQ G nl 3 (G k 1)).1 ≤ 216000 * 216000 := Nat.mul_le_mul r7 r2
    have l0 : 0 < (dQ G nl 3 (G k 1)).1 * (dQ G nl 3 (G k 2)).1 := Nat.mul_pos r1 r4
    omega
  · rw [if_neg hp, if_neg hp]
    omega
/-- what a source adds to the wear, in the link's own modulus -/
theorem w_src {ns nl k : Nat} {G : Nat → Nat → Nat} {lv : Nat → Nat} (_hG : GrOK ns nl G) (_hL : Lev nl G lv) (_hk : k < nl) {tn : Nat → Rat} (htb : ∀ s, Bd (pm G nl s) (qm G nl s) (tn s)) :
    ∃ B1 B2, Bd (wmo G nl k) B1 (tn (G k 1)) ∧ (G k 0 = 112 → Bd (wmo G nl k) B2 (tn (G k 2))) ∧ B1 + B2 = wbo G nl k := by
  unfold wmo wbo
  by_cases hp : G k 0 = 112
  · rw [if_pos hp, if_pos hp]
    refine ⟨_, _, ?_, fun _ => ?_, rfl⟩
    · have := bd_scale (dQ G nl 3 (G k 2)).1 (htb (G k 1))
      unfold pm qm at this
      rw [Nat.mul_assoc] at this
      exact this
    · have := bd_scale (dQ G nl 3 (G k 1)).1 (htb (G k 2))
      unfold pm qm at this
      rw [Nat.mul_assoc, Nat.mul_comm (dQ G nl 3 (G k 2)).1] at this
      exact this
  · rw [if_neg hp, if_neg hp]
    refine ⟨_, 0, ?_, fun q => absurd q hp, rfl⟩
    have := htb (G k 1)
    unfold pm qm at this
    rw [Nat.mul_one]
    exact this
theorem bdW_step {ns nl n : Nat} {G : Nat → Nat → Nat} {lv : Nat → Nat} (hG : GrOK ns nl G) (hL : Lev nl G lv) {act : Nat → Bool} {tn W : Nat → Rat} (h : BdW G nl n W) (htb : ∀ s, Bd (pm G nl s) (qm G nl s) (tn s)) : BdW G nl (n + 1) (wnx G act tn W) := by
  intro k hk
  obtain ⟨B1, B2, b1, b2, b3⟩ := w_src hG hL hk htb
  have hw := h k hk
  unfold wnx
  rw [Nat.succ_mul]
  by_cases ha : act k = true
  · rw [if_pos ha]
    have x1 := bd_add hw (bd_abs b1)
    by_cases hp : G k 0 = 112
    · rw [if_pos hp]
      exact bd_le (bd_add x1 (bd_abs (b2 hp))) (by omega)
    · rw [if_neg hp, Rat.add_zero]
      exact bd_le x1 (by omega)
  · rw [if_neg ha]
    exact bd_le hw (by omega)
section M9
variable {A E : Nat → Nat} {ls : Nat → List Nat} {nl nc nd : Nat} {S : Hp} {D : Dt} {G : Nat → Nat → Nat}
end M9
