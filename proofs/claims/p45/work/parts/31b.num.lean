/-! NUMBERS OF THE LAW: its common divisor, its fractions, its choices -/
theorem i6_trem {a b : Int} (ha : Rg a) (hb : Rg b) : i6 a - i6 a / i6 b * i6 b = i6 (a.tmod b) := by
  rw [i6_tdiv ha hb, i6_mul, i6_sub]
  congr 1
  rw [Int.tmod_def, Int.mul_comm]
theorem rg_tmod {a b : Int} (hb : Rg b) (h0 : b ≠ 0) : Rg (a.tmod b) := by
  have h1 : (a.tmod b).natAbs < b.natAbs := by
    rw [Int.natAbs_tmod]
    exact Nat.mod_lt _ (by omega)
  unfold Rg at *
  omega
theorem gcd_tmod {a b : Int} : Int.gcd a b = Int.gcd b (a.tmod b) := by
  unfold Int.gcd
  rw [Int.natAbs_tmod]
  exact gcd_next _ _
theorem common_rec {Φ : Hp → Int64 → Prop} {S : Hp} : ∀ (k d : Nat) (a b : Int), Rg a → b.natAbs < 2 ^ k → Rg b → 2 * k + 1 ≤ d → Φ S (i6 (Int.gcd a b : Nat)) → wL_common d S (i6 a) (i6 b) Φ := by
  have base : ∀ (d : Nat) (a : Int), Rg a → Φ S (i6 (Int.gcd a 0 : Nat)) → wL_common (d + 1) S (i6 a) (i6 0) Φ := fun d a ha hΦ => by
    show wL_common_b0 (wL_common d) (i6 a) (i6 0) Φ S
    unfold wL_common_b0
    rw [i6_0]
    refine fi_p ((cmp_eq rg_0 rg_0).mpr rfl) ?_
    have hg : (Int.gcd a 0 : Nat) = a.natAbs := Nat.gcd_zero_right _
    rw [hg] at hΦ
    by_cases c : 0 ≤ a
    · refine if_p ((cmp_ge ha rg_0).mpr c) ?_
      have e : (a.natAbs : Int) = a := by omega
      rw [e] at hΦ
      exact hΦ
    · refine if_n (fun q => c ((cmp_ge ha rg_0).mp q)) ?_
      have e : (a.natAbs : Int) = -a := by omega
      rw [e] at hΦ
      rw [i6_neg]
      exact hΦ
  intro k
  induction k with
  | zero =>
    intro d a b ha hb hrb hd hΦ
    have h0 : b = 0 := by omega
    subst h0
    obtain ⟨d, rfl⟩ : ∃ d', d = d' + 1 := ⟨d - 1, by omega⟩
    exact base d a ha hΦ
  | succ k ih =>
    intro d a b ha hb hrb hd hΦ
    by_cases h0 : b = 0
    · subst h0
      obtain ⟨d, rfl⟩ : ∃ d', d = d' + 1 := ⟨d - 1, by omega⟩
      exact base d a ha hΦ
    · obtain ⟨d, rfl⟩ : ∃ d', d = d' + 2 := ⟨d - 2, by omega⟩
      have hrr := rg_tmod (a := a) hrb h0
      have st : ∀ (d : Nat) (a b : Int), Rg a → Rg b → b ≠ 0 → wL_common d S (i6 b) (i6 (a.tmod b)) Φ → wL_common (d + 1) S (i6 a) (i6 b) Φ := fun d a b ha hb hn h => by
        show wL_common_b0 (wL_common d) (i6 a) (i6 b) Φ S
        unfold wL_common_b0
        refine fi_n (fun q => hn (by rw [i6_0] at q; exact (cmp_eq hb rg_0).mp q)) ⟨i6_ne hb hn, ?_⟩
        rw [i6_trem ha hb]
        exact h
      refine st (d + 1) a b ha hrb h0 ?_
      rw [gcd_tmod] at hΦ
      by_cases h1 : a.tmod b = 0
      · rw [h1] at hΦ ⊢
        exact base d b hrb hΦ
      · refine st d b (a.tmod b) hrb hrr h1 ?_
        rw [gcd_tmod] at hΦ
        refine ih d _ _ hrr ?_ (rg_tmod hrr h1) (by omega) hΦ
        have e1 : (a.tmod b).natAbs = a.natAbs % b.natAbs := Int.natAbs_tmod a b
        rw [Int.natAbs_tmod, e1]
        by_cases hr : a.natAbs % b.natAbs < 2 ^ k
        · have h2 : b.natAbs % (a.natAbs % b.natAbs) < a.natAbs % b.natAbs := Nat.mod_lt _ (by omega)
          omega
        · exact half_rem hb (by omega) hr
/-- fractions whose numbers are small -/
def Sz (q : Rat) : Prop := q.den ≤ 1000000 ∧ q.num.natAbs ≤ 1000000000
theorem sz_bd {M B : Nat} {q : Rat} (h : Bd M B q) (hM0 : 0 < M) (hM : M ≤ 1000000) (hB : B ≤ 1000000000) : Sz q := by
  obtain ⟨w0, m, w2, w3⟩ := bd_bq hM0 h
  have hm : 0 < m := Nat.pos_of_ne_zero (fun e => by rw [e, Nat.mul_zero] at w2; omega)
  have h1 : q.den ≤ q.den * m := Nat.le_mul_of_pos_right _ hm
  have h2 : q.num.natAbs ≤ q.num.natAbs * m := Nat.le_mul_of_pos_right _ hm
  exact ⟨by omega, by omega⟩
/-- the law's common divisor of numbers that are small enough -/
theorem p_commonL {S : Hp} {Φ : Hp → Int64 → Prop} {x y : Int} (hx : Rg x) (hy : y.natAbs < 17000000000000) (h : Φ S (i6 (Int.gcd x y : Nat))) : wL_common 90 S (i6 x) (i6 y) Φ :=
  common_rec 44 90 x y hx (by omega) (by unfold Rg; omega) (by decide) h
theorem red_up {N D : Int} (hN : Rg N) (h0 : 0 < D) (hD : Rg D) : i6 N / i6 (Int.gcd N D : Nat) = i6 (Rat.divInt N D).num := by
  rw [i6_div hN (rg_gcd h0 hD) (Int.gcd_dvd_left N D), nf_num N h0]
theorem red_dn {N D : Int} (h0 : 0 < D) (hD : Rg D) : i6 D / i6 (Int.gcd N D : Nat) = i6 ((Rat.divInt N D).den : Int) := by
  rw [i6_div hD (rg_gcd h0 hD) (Int.gcd_dvd_right N D), nf_den N h0]
theorem gcd_ne {N D : Int} (h0 : 0 < D) (hD : Rg D) : ¬ i6 (Int.gcd N D : Nat) = 0 := i6_ne (rg_gcd h0 hD) (by have := gcd_pos_r (N := N) h0; omega)
/-- a sum over one denominator -/
theorem sum_q (x y : Rat) : Rat.divInt (x.num * y.den + y.num * x.den) (x.den * y.den) = x + y := by
  have e := Rat.divInt_add_divInt x.num y.num (d₁ := (x.den : Int)) (d₂ := (y.den : Int)) (by have := den_pos x; omega) (by have := den_pos y; omega)
  rw [q_self, q_self] at e
  exact e.symm
theorem mul_le4 {a b c d : Nat} (h1 : a ≤ c) (h2 : b ≤ d) : a * b ≤ c * d := Nat.mul_le_mul h1 h2
theorem sz_sum {x y : Rat} (hx : Sz x) (hy : Sz y) : Rg (x.num * y.den) ∧ Rg (y.num * x.den) ∧ Rg (x.num * y.den + y.num * x.den) ∧ Rg ((x.den : Int) * y.den) ∧ 0 < (x.den : Int) * y.den ∧ ((x.den : Int) * y.den).natAbs < 17000000000000 := by
  have a1 : (x.num * (y.den : Int)).natAbs ≤ 1000000000 * 1000000 := by
    rw [Int.natAbs_mul, Int.natAbs_natCast]
    exact Nat.mul_le_mul hx.2 hy.1
  have a2 : (y.num * (x.den : Int)).natAbs ≤ 1000000000 * 1000000 := by
    rw [Int.natAbs_mul, Int.natAbs_natCast]
    exact Nat.mul_le_mul hy.2 hx.1
  have a3 : ((x.den : Int) * (y.den : Int)).natAbs ≤ 1000000 * 1000000 := by
    rw [Int.natAbs_mul, Int.natAbs_natCast, Int.natAbs_natCast]
    exact Nat.mul_le_mul hx.1 hy.1
  have a4 : 0 < (x.den : Int) * (y.den : Int) := Int.mul_pos (den_pos x) (den_pos y)
  generalize x.num * (y.den : Int) = u at *
  generalize y.num * (x.den : Int) = v at *
  generalize (x.den : Int) * (y.den : Int) = w at *
  unfold Rg
  omega
theorem and_nn (r : Int32) : 0 ≤ (r &&& 2147483647).toInt := by
  have h2 := BitVec.msb_eq_toInt (x := (r &&& 2147483647).toBitVec)
  have h3 : (r &&& 2147483647).toBitVec.msb = false := by
    rw [Int32.toBitVec_and, BitVec.msb_and]
    have h4 : (2147483647 : Int32).toBitVec.msb = false := by decide
    rw [h4, Bool.and_false]
  rw [h3] at h2
  have h5 : ¬ (r &&& 2147483647).toBitVec.toInt < 0 := of_decide_eq_false h2.symm
  show 0 ≤ (r &&& 2147483647).toBitVec.toInt
  omega
theorem irem_nI {z : Int32} {m : Nat} (hz : 0 ≤ z.toInt) (hm : 0 < m) (hm2 : m < 1000) : z - z / nI m * nI m = nI (z.toInt % (m : Int)).toNat := by
  have h1 : z = Int32.ofInt z.toInt := (Int32.ofInt_toInt z).symm
  have h2 : nI m = Int32.ofInt (m : Int) := rfl
  have h9 := z.toInt_lt
  have e1 : z / nI m = Int32.ofInt (z.toInt.tdiv m) := by
    conv => lhs; rw [h1, h2]
    refine (Int32.ofInt_tdiv ?_ ?_ ?_ ?_).symm
    · rw [Int32.toInt_minValue]; omega
    · rw [Int32.toInt_maxValue]; omega
    · rw [Int32.toInt_minValue]; omega
    · rw [Int32.toInt_maxValue]; omega
  rw [e1, h2, ← Int32.ofInt_mul]
  conv => lhs; rw [h1]
  rw [Int32.toInt_ofInt_of_le (by omega) (by omega), ← Int32.ofInt_sub]
  have e2 : z.toInt - z.toInt.tdiv (m : Int) * (m : Int) = ((z.toInt % (m : Int)).toNat : Int) := by
    rw [Int.tdiv_eq_ediv_of_nonneg hz, Int.toNat_of_nonneg (Int.emod_nonneg _ (by omega)), Int.emod_def, Int.mul_comm]
  rw [e2]
  rfl
theorem p_cell {S : Hp} {Φ : Hp → Int32 → Prop} {xs : Nat → Int32} {L i : Nat} (hL : L ≤ 260) (hi : i < 100) (h : ∀ r, Φ S r) : wL_cell S xs L (nI i) Φ := by
  unfold wL_cell wL_cell_b0 wL_cell_b15
  refine ⟨fun _ => h _, fun c => ⟨nI_in ?_ (by omega), h _⟩⟩
  by_cases c2 : i < L
  · exact c2
  · exact absurd (show nI L ≤ nI i from nI_le (by omega) (by omega)) c
theorem p_in {S : Hp} {Φ : Hp → Int32 → Prop} {xs : Nat → Int32} {L i m : Nat} {x y : Int32} (hx : x = nI i) (hy : y = nI m) (hL : L ≤ 260) (hi : i < 100) (hm : 0 < m) (hm2 : m < 1000) (h : ∀ r : Nat, r < m → Φ S (nI r)) : wL_in S xs L x y Φ := by
  rw [hx, hy]
  unfold wL_in wL_in_b0
  refine p_cell hL hi (fun r => ⟨fun q => ?_, ?_⟩)
  · have := (nI_iff (a := m) (b := 0) (by omega) (by decide)).mp q
    omega
  · rw [irem_nI (and_nn r) hm hm2]
    refine h _ ?_
    have h1 := Int.emod_nonneg (r &&& 2147483647).toInt (show (m : Int) ≠ 0 by omega)
    have h2 := Int.emod_lt_of_pos (r &&& 2147483647).toInt (show (0 : Int) < m by omega)
    omega
