/-! ROWS OF FRACTIONS, and the reference's sums -/
def rn (p : Nat) : Nat := if p = 1 then 16 else 14
def Dt.fillJ (D : Dt) (r n : Nat) (v : Int64) : Dt := Dt.mk D.FI D.FJ D.AI (fun x i => if x = r ∧ i < n then v else D.AJ x i)
def Dt.fillI (D : Dt) (r n : Nat) (v : Int32) : Dt := Dt.mk D.FI D.FJ (fun x i => if x = r ∧ i < n then v else D.AI x i) D.AJ
def Dt.cpyJ (D : Dt) (r r' n : Nat) : Dt := Dt.mk D.FI D.FJ D.AI (fun x i => if x = r ∧ i < n then D.AJ r' i else D.AJ x i)
def putQ (D : Dt) (p i : Nat) (q : Rat) : Dt := (D.setAJ (30 + 2 * p) i (i6 q.num)).setAJ (31 + 2 * p) i (i6 q.den)
/-- o by u, of a modulus M, at most B of its parts -/
def Bp (M B : Nat) (o : Int) (u : Nat) : Prop := 0 < u ∧ ∃ m : Nat, M = u * m ∧ o.natAbs * m ≤ B
theorem bp_rg {M B : Nat} {o : Int} {u : Nat} (h : Bp M B o u) (hM0 : 0 < M) (hM : M < 9223372036854775808) (hB : B < 9223372036854775808) : Rg o ∧ Rg u := by
  obtain ⟨h0, m, h1, h2⟩ := h
  have hm : 0 < m := Nat.pos_of_ne_zero (fun e => by rw [e, Nat.mul_zero] at h1; omega)
  have h3 : o.natAbs ≤ o.natAbs * m := Nat.le_mul_of_pos_right _ hm
  have h4 : u ≤ u * m := Nat.le_mul_of_pos_right _ hm
  unfold Rg
  omega
theorem lcm_part {M d u m : Nat} (hM0 : 0 < M) (hd : M = d * m) (hu : u ∣ M) : u / Nat.gcd d u ≤ m ∧ d * (u / Nat.gcd d u) ≤ M := by
  have h1 : Nat.lcm d u ∣ M := Nat.lcm_dvd ⟨m, hd⟩ hu
  have h2 : Nat.lcm d u = d * (u / Nat.gcd d u) := by
    unfold Nat.lcm
    exact Nat.mul_div_assoc d (Nat.gcd_dvd_right d u)
  rw [h2] at h1
  have h3 := Nat.le_of_dvd hM0 h1
  refine ⟨?_, h3⟩
  rw [hd] at h3
  have hd0 : 0 < d := Nat.pos_of_ne_zero (fun e => by rw [e, Nat.zero_mul] at hd; omega)
  exact Nat.le_of_mul_le_mul_left h3 hd0
theorem bp_sum {M B1 B2 : Nat} {a c : Int} {b d : Nat} (h1 : Bp M B1 a b) (h2 : Bp M B2 c d) (hM0 : 0 < M) (hM : M < 9223372036854775808) (hB : B1 + B2 < 9223372036854775808) :
    Rg (a * ((d : Int) / (Nat.gcd b d : Nat))) ∧ Rg (c * ((b : Int) / (Nat.gcd b d : Nat))) ∧ Rg (a * ((d : Int) / (Nat.gcd b d : Nat)) + c * ((b : Int) / (Nat.gcd b d : Nat))) ∧ Rg ((b : Int) / (Nat.gcd b d : Nat) * d) ∧ 0 < (b : Int) / (Nat.gcd b d : Nat) * d := by
  obtain ⟨hb0, m1, e1, g1⟩ := h1
  obtain ⟨hd0, m2, e2, g2⟩ := h2
  obtain ⟨l1, l2⟩ := lcm_part hM0 e1 ⟨m2, e2⟩
  obtain ⟨l3, l4⟩ := lcm_part hM0 e2 ⟨m1, e1⟩
  rw [Nat.gcd_comm d b] at l3 l4
  rw [← Int.natCast_ediv, ← Int.natCast_ediv]
  have hg : 0 < Nat.gcd b d := Nat.gcd_pos_of_pos_left d hb0
  have hb1 : 0 < b / Nat.gcd b d := Nat.div_pos (Nat.le_of_dvd hb0 (Nat.gcd_dvd_left b d)) hg
  generalize d / Nat.gcd b d = d1 at *
  generalize b / Nat.gcd b d = b1 at *
  have k1 : (a * (d1 : Int)).natAbs ≤ B1 := by
    rw [Int.natAbs_mul, Int.natAbs_natCast]
    exact Nat.le_trans (Nat.mul_le_mul_left _ l1) g1
  have k2 : (c * (b1 : Int)).natAbs ≤ B2 := by
    rw [Int.natAbs_mul, Int.natAbs_natCast]
    exact Nat.le_trans (Nat.mul_le_mul_left _ l3) g2
  have k3 : (b1 : Int) * d = ((d * b1 : Nat) : Int) := by
    rw [Int.natCast_mul, Int.mul_comm]
  have k4 : 0 < d * b1 := Nat.mul_pos hd0 hb1
  rw [k3]
  unfold Rg
  omega
theorem int_gcd_nat (b d : Nat) : Int.gcd (b : Int) (d : Int) = Nat.gcd b d := rfl
/-- bounds in the form of a fraction itself -/
def Bq (M B : Nat) (q : Rat) : Prop := Bp M B q.num q.den
section RW9
variable {A E : Nat → Nat} {ls : Nat → List Nat} {nl nc nd : Nat} {S : Hp} {D : Dt}
theorem row_ (h : Rep A E ls nl nc nd S D) {p : Nat} (hp : p < 11) : isA S (A (9 + p)) 4 ∧ S.FR 256 (A (9 + p)) = some (A (30 + 2 * p)) ∧ S.FR 257 (A (9 + p)) = some (A (31 + 2 * p)) ∧ isA S (A (30 + 2 * p)) 22 ∧ isA S (A (31 + 2 * p)) 22 ∧ S.N (A (30 + 2 * p)) = rn p ∧ S.N (A (31 + 2 * p)) = rn p := by
  have hs : ∀ p, p < 11 → sdr (9 + p) = true ∧ kdr (9 + p) = 4 ∧ (256, 9 + p, 30 + 2 * p) ∈ rfT ∧ (257, 9 + p, 31 + 2 * p) ∈ rfT ∧ sdr (30 + 2 * p) = true ∧ sdr (31 + 2 * p) = true ∧ kdr (30 + 2 * p) = 22 ∧ kdr (31 + 2 * p) = 22 ∧ ndr (30 + 2 * p) = rn p ∧ ndr (31 + 2 * p) = rn p := by decide
  obtain ⟨h1, h2, h3, h4, h5, h6, h7, h8, h9, h10⟩ := hs p hp
  exact ⟨rep_is h (al_s h1) h2, rep_fr h _ h3, rep_fr h _ h4, rep_is h (al_s h5) h7, rep_is h (al_s h6) h8, rep_N h (al_s h5) h9, rep_N h (al_s h6) h10⟩
theorem row_al {p : Nat} (hp : p < 11) : al nl nc nd (30 + 2 * p) ∧ al nl nc nd (31 + 2 * p) := by
  have hs : ∀ p, p < 11 → sdr (30 + 2 * p) = true ∧ sdr (31 + 2 * p) = true := by decide
  exact ⟨al_s (hs p hp).1, al_s (hs p hp).2⟩
theorem rn_le (p : Nat) : rn p ≤ 16 := by
  unfold rn
  split <;> omega
theorem in_nI {i n : Nat} (h : i < n) (hn : n ≤ 30) : vp_in (nI i) n := nI_in h (by omega)
theorem cl_nI {i : Nat} (h : i < 2 ^ 31) : (nI i).toNatClampNeg = i := nI_clamp h
theorem p_has1 {Φ : Hp → Int32 → Prop} {p i : Nat} (h : Rep A E ls nl nc nd S D) (hp : p < 11) (hi : i < rn p) (k : Φ S 1) : wX4_has S (A (9 + p)) (nI i) Φ := by
  obtain ⟨r1, r2, r3, r4, r5, r6, r7⟩ := row_ h hp
  have := rn_le p
  unfold wX4_has wX4_has_b0
  refine if_n (nI_pos (by omega)) ⟨r1, _, r2, r4, ?_⟩
  rw [r6]
  exact if_n (nI_ge hi (by omega)) k
theorem p_has0 {Φ : Hp → Int32 → Prop} {a : Nat} (k : Φ S 0) : wX4_has S a (-1) Φ := by
  unfold wX4_has wX4_has_b0
  exact if_p (by decide) k
theorem p_overAt {Φ : Hp → Int64 → Prop} {p i : Nat} (h : Rep A E ls nl nc nd S D) (hp : p < 11) (hi : i < rn p) (k : Φ S (D.AJ (30 + 2 * p) i)) : wX4_overAt S (A (9 + p)) (nI i) Φ := by
  obtain ⟨r1, r2, r3, r4, r5, r6, r7⟩ := row_ h hp
  have := rn_le p
  unfold wX4_overAt wX4_overAt_b0
  refine ⟨r1, p_has1 h hp hi (if_n (by decide) ⟨r1, _, r2, r4, ?_, ?_⟩)⟩
  · rw [r6]
    exact in_nI hi (by omega)
  · rw [cl_nI (by omega), rep_AJ h i (row_al hp).1]
    exact k
theorem p_underAt {Φ : Hp → Int64 → Prop} {p i : Nat} (h : Rep A E ls nl nc nd S D) (hp : p < 11) (hi : i < rn p) (k : Φ S (D.AJ (31 + 2 * p) i)) : wX4_underAt S (A (9 + p)) (nI i) Φ := by
  obtain ⟨r1, r2, r3, r4, r5, r6, r7⟩ := row_ h hp
  have := rn_le p
  unfold wX4_underAt wX4_underAt_b0
  refine ⟨r1, p_has1 h hp hi (if_n (by decide) ⟨r1, _, r3, r5, ?_, ?_⟩)⟩
  · rw [r7]
    exact in_nI hi (by omega)
  · rw [cl_nI (by omega), rep_AJ h i (row_al hp).2]
    exact k
theorem p_overAt0 {Φ : Hp → Int64 → Prop} {p : Nat} (h : Rep A E ls nl nc nd S D) (hp : p < 11) (k : Φ S 0) : wX4_overAt S (A (9 + p)) (-1) Φ := by
  unfold wX4_overAt wX4_overAt_b0
  exact ⟨(row_ h hp).1, p_has0 (if_p rfl k)⟩
theorem p_isMoving {Φ : Hp → Int32 → Prop} {p i : Nat} (h : Rep A E ls nl nc nd S D) (hp : p < 11) (hi : i < rn p) (k0 : D.AJ (30 + 2 * p) i = 0 → Φ S 0) (k1 : D.AJ (30 + 2 * p) i ≠ 0 → Φ S 1) : wX4_isMoving S (A (9 + p)) (nI i) Φ := by
  unfold wX4_isMoving wX4_isMoving_b0
  refine ⟨(row_ h hp).1, p_overAt h hp hi ?_⟩
  rw [lg_cmp_eq]
  exact ⟨k0, k1⟩
theorem p_isMoving0 {Φ : Hp → Int32 → Prop} {p : Nat} (h : Rep A E ls nl nc nd S D) (hp : p < 11) (k : Φ S 0) : wX4_isMoving S (A (9 + p)) (-1) Φ := by
  unfold wX4_isMoving wX4_isMoving_b0
  refine ⟨(row_ h hp).1, p_overAt0 h hp (if_p ?_ k)⟩
  rw [lg_cmp_eq]
theorem p_isSame {Φ : Hp → Int32 → Prop} {p p' i : Nat} (h : Rep A E ls nl nc nd S D) (hp : p < 11) (hp' : p' < 11) (hi : i < rn p) (hi' : i < rn p')
    (k1 : D.AJ (30 + 2 * p) i = D.AJ (30 + 2 * p') i → D.AJ (31 + 2 * p) i = D.AJ (31 + 2 * p') i → Φ S 1) (k0 : ¬ (D.AJ (30 + 2 * p) i = D.AJ (30 + 2 * p') i ∧ D.AJ (31 + 2 * p) i = D.AJ (31 + 2 * p') i) → Φ S 0) : wX4_isSame S (A (9 + p)) (nI i) (A (9 + p')) Φ := by
  unfold wX4_isSame wX4_isSame_b0
  refine ⟨(row_ h hp).1, p_overAt h hp hi ⟨(row_ h hp').1, p_overAt h hp' hi' ?_⟩⟩
  rw [lg_cmp_eq]
  refine ⟨fun e => k0 (fun q => e q.1), fun e1 => ⟨(row_ h hp).1, p_underAt h hp hi ⟨(row_ h hp').1, p_underAt h hp' hi' ?_⟩⟩⟩
  rw [lg_cmp_eq]
  exact ⟨fun e => k0 (fun q => e q.2), fun e2 => k1 e1 e2⟩
theorem set_putAJ (h : Rep A E ls nl nc nd S D) {r : Nat} (f : Nat → Int64) (D' : Dt) (e1 : D'.FI = D.FI) (e2 : D'.FJ = D.FJ) (e3 : D'.AI = D.AI) (e4 : ∀ x i, al nl nc nd x → D'.AJ x i = if x = r then f i else D.AJ x i) : Rep A E ls nl nc nd (S.putAJ (A r) f) D' := by
  refine ⟨h.1, fun r' hr' => ?_⟩
  obtain ⟨h1, h2, h3, h4⟩ := h.2 r' hr'
  rw [e1, e2, e3]
  refine ⟨h1, h2, h3, fun j => ?_⟩
  rw [e4 r' j hr']
  show va_up S.AJ (A r) f (A r') j = _
  unfold va_up
  by_cases e : r' = r
  · rw [if_pos e, if_pos (by rw [e])]
  · rw [if_neg e, if_neg (fun q => e ((rep_in h r' r).mp q))]
    exact h4 j
theorem p_fillJ {Φ : Hp → Prop} {r n : Nat} {v : Int64} (h : Rep A E ls nl nc nd S D) (hr : al nl nc nd r) (hk : kdr r = 22) (hn : ndr r = n) (hn30 : n ≤ 30) (k : ∀ S', Rep A E ls nl nc nd S' (D.fillJ r n v) → Φ S') : wJ7_fill_d0a16 S (A r) v Φ := by
  unfold wJ7_fill_d0a16 wJ7_fill_d0a16_b0
  refine ⟨rep_is h hr hk, ?_⟩
  rw [rep_N h hr hn]
  refine it3_ex (fun j S1 c1 c2 => Rep A E ls nl nc nd S1 (D.fillJ r j v) ∧ c1 = nI j ∧ c2 = nI n) n ?_ ?_ ⟨?_, rfl, rfl⟩
  · rintro j hj S1 _ _ k1 ⟨h1, rfl, rfl⟩ hk1
    unfold wJ7_fill_d0a16_b6
    refine if_n (nI_ge hj (by omega)) ⟨rep_is h1 hr hk, ?_, fun S4 e4 => ?_⟩
    · rw [rep_N h1 hr hn]
      exact in_nI hj hn30
    · rw [e4, cl_nI (by omega), ← nI_succ]
      refine hk1 _ _ _ ⟨?_, rfl, rfl⟩
      have h2 := set_AJ h1 j v hr
      have e : (D.fillJ r j v).setAJ r j v = D.fillJ r (j + 1) v := by
        unfold Dt.fillJ Dt.setAJ
        show Dt.mk D.FI D.FJ D.AI _ = Dt.mk D.FI D.FJ D.AI _
        congr 1
        funext x i
        show up2 (fun x i => if x = r ∧ i < j then v else D.AJ x i) r j v x i = _
        unfold up2
        dsimp only
        by_cases c1 : x = r
        · by_cases c2 : i = j
          · rw [if_pos ⟨c1, c2⟩, if_pos ⟨c1, by omega⟩]
          · rw [if_neg (fun q => c2 q.2)]
            by_cases c3 : i < j
            · rw [if_pos ⟨c1, c3⟩, if_pos ⟨c1, by omega⟩]
            · rw [if_neg (fun q => c3 q.2), if_neg (fun q => by omega)]
        · rw [if_neg (fun q => c1 q.1), if_neg (fun q => c1 q.1), if_neg (fun q => c1 q.1)]
      rw [e] at h2
      exact h2
  · rintro S1 _ _ k1 ⟨h1, rfl, rfl⟩
    unfold wJ7_fill_d0a16_b6
    exact if_p (nI_le (Nat.le_refl _) (by omega)) (k _ h1)
  · have e : D.fillJ r 0 v = D := by
      unfold Dt.fillJ
      have e2 : (fun x i => if x = r ∧ i < 0 then v else D.AJ x i) = D.AJ := by
        funext x i
        exact if_neg (fun q => by omega)
      rw [e2]
      rfl
    rw [e]
    exact h
theorem p_fillI {Φ : Hp → Prop} {r n : Nat} {v : Int32} (h : Rep A E ls nl nc nd S D) (hr : al nl nc nd r) (hk : kdr r = 21) (hn : ndr r = n) (hn30 : n ≤ 30) (k : ∀ S', Rep A E ls nl nc nd S' (D.fillI r n v) → Φ S') : wJ7_fill_53178 S (A r) v Φ := by
  unfold wJ7_fill_53178 wJ7_fill_53178_b0
  refine ⟨rep_is h hr hk, ?_⟩
  rw [rep_N h hr hn]
  refine it3_ex (fun j S1 c1 c2 => Rep A E ls nl nc nd S1 (D.fillI r j v) ∧ c1 = nI j ∧ c2 = nI n) n ?_ ?_ ⟨?_, rfl, rfl⟩
  · rintro j hj S1 _ _ k1 ⟨h1, rfl, rfl⟩ hk1
    unfold wJ7_fill_53178_b5
    refine if_n (nI_ge hj (by omega)) ⟨rep_is h1 hr hk, ?_, fun S4 e4 => ?_⟩
    · rw [rep_N h1 hr hn]
      exact in_nI hj hn30
    · rw [e4, cl_nI (by omega), ← nI_succ]
      refine hk1 _ _ _ ⟨?_, rfl, rfl⟩
      have h2 := set_AI h1 j v hr
      have e : (D.fillI r j v).setAI r j v = D.fillI r (j + 1) v := by
        unfold Dt.fillI Dt.setAI
        show Dt.mk D.FI D.FJ _ D.AJ = Dt.mk D.FI D.FJ _ D.AJ
        congr 1
        funext x i
        show up2 (fun x i => if x = r ∧ i < j then v else D.AI x i) r j v x i = _
        unfold up2
        dsimp only
        by_cases c1 : x = r
        · by_cases c2 : i = j
          · rw [if_pos ⟨c1, c2⟩, if_pos ⟨c1, by omega⟩]
          · rw [if_neg (fun q => c2 q.2)]
            by_cases c3 : i < j
            · rw [if_pos ⟨c1, c3⟩, if_pos ⟨c1, by omega⟩]
            · rw [if_neg (fun q => c3 q.2), if_neg (fun q => by omega)]
        · rw [if_neg (fun q => c1 q.1), if_neg (fun q => c1 q.1), if_neg (fun q => c1 q.1)]
      rw [e] at h2
      exact h2
  · rintro S1 _ _ k1 ⟨h1, rfl, rfl⟩
    unfold wJ7_fill_53178_b5
    exact if_p (nI_le (Nat.le_refl _) (by omega)) (k _ h1)
  · have e : D.fillI r 0 v = D := by
      unfold Dt.fillI
      have e2 : (fun x i => if x = r ∧ i < 0 then v else D.AI x i) = D.AI := by
        funext x i
        exact if_neg (fun q => by omega)
      rw [e2]
      rfl
    rw [e]
    exact h
theorem row_kn {p : Nat} (hp : p < 11) : kdr (30 + 2 * p) = 22 ∧ kdr (31 + 2 * p) = 22 ∧ ndr (30 + 2 * p) = rn p ∧ ndr (31 + 2 * p) = rn p := by
  have hs : ∀ p, p < 11 → kdr (30 + 2 * p) = 22 ∧ kdr (31 + 2 * p) = 22 ∧ ndr (30 + 2 * p) = rn p ∧ ndr (31 + 2 * p) = rn p := by decide
  exact hs p hp
theorem p_reset {Φ : Hp → Prop} {p : Nat} (h : Rep A E ls nl nc nd S D) (hp : p < 11) (k : ∀ S', Rep A E ls nl nc nd S' ((D.fillJ (30 + 2 * p) (rn p) 0).fillJ (31 + 2 * p) (rn p) 1) → Φ S') : wX4_reset S (A (9 + p)) Φ := by
  obtain ⟨k1, k2, k3, k4⟩ := row_kn hp
  have := rn_le p
  unfold wX4_reset wX4_reset_b0
  refine ⟨(row_ h hp).1, _, (row_ h hp).2.1, p_fillJ h (row_al hp).1 k1 k3 (by omega) (fun S1 h1 => ⟨(row_ h1 hp).1, _, (row_ h1 hp).2.2.1, p_fillJ h1 (row_al hp).2 k2 k4 (by omega) k⟩)⟩
theorem cpy_at {f g : Nat → Int64} {n i : Nat} : va_cpy f g (0 : Int32).toNatClampNeg (0 : Int32).toNatClampNeg n i = if i < n then f i else g i := by
  have h0 : (0 : Int32).toNatClampNeg = 0 := rfl
  rw [h0]
  unfold va_cpy
  by_cases h : i < n
  · rw [if_pos ⟨by omega, by omega⟩, if_pos h]
    congr 1
    omega
  · rw [if_neg (fun q => h (by omega)), if_neg h]
theorem p_copyFrom {Φ : Hp → Prop} {p p' : Nat} (h : Rep A E ls nl nc nd S D) (hp : p < 11) (hp' : p' < 11) (hn : rn p = 14) (hn' : rn p' = 14) (hne : p ≠ p') (k : ∀ S', Rep A E ls nl nc nd S' ((D.cpyJ (30 + 2 * p) (30 + 2 * p') 14).cpyJ (31 + 2 * p) (31 + 2 * p') 14) → Φ S') : wX4_copyFrom S (A (9 + p)) (A (9 + p')) Φ := by
  obtain ⟨r1, r2, r3, r4, r5, r6, r7⟩ := row_ h hp
  obtain ⟨q1, q2, q3, q4, q5, q6, q7⟩ := row_ h hp'
  have hsz : (if nI 14 < nI 14 then nI 14 else nI 14) = nI 14 := if_neg (by decide)
  have hc : (nI 14).toNatClampNeg = 14 := by decide
  unfold wX4_copyFrom wX4_copyFrom_b0
  refine ⟨r1, _, r2, r4, q1, _, q2, q4, _, q2, _, r2, q4, r4, by decide, by decide, ?_⟩
  rw [r6, q6, hn, hn', hsz, hc]
  refine ⟨by decide, by decide, by decide, fun S12 e12 => ?_⟩
  have h12 : Rep A E ls nl nc nd S12 (D.cpyJ (30 + 2 * p) (30 + 2 * p') 14) := by
    rw [e12]
    refine set_putAJ h _ _ rfl rfl rfl (fun x i hx => ?_)
    show (if x = 30 + 2 * p ∧ i < 14 then D.AJ (30 + 2 * p') i else D.AJ x i) = _
    rw [cpy_at]
    by_cases c1 : x = 30 + 2 * p
    · rw [if_pos c1]
      by_cases c2 : i < 14
      · rw [if_pos ⟨c1, c2⟩, if_pos c2, rep_AJ h i (row_al hp').1]
      · rw [if_neg (fun q => c2 q.2), if_neg c2, rep_AJ h i (row_al hp).1, c1]
    · rw [if_neg (fun q => c1 q.1), if_neg c1]
  obtain ⟨s1, s2, s3, s4, s5, s6, s7⟩ := row_ h12 hp
  obtain ⟨t1, t2, t3, t4, t5, t6, t7⟩ := row_ h12 hp'
  refine ⟨_, t3, _, s3, t5, s5, by decide, by decide, by decide, ?_, ?_, fun S18 e18 => k S18 ?_⟩
  · rw [t7, hn']
    decide
  · rw [s7, hn]
    decide
  · rw [e18]
    refine set_putAJ h12 _ _ rfl rfl rfl (fun x i hx => ?_)
    show (if x = 31 + 2 * p ∧ i < 14 then (D.cpyJ (30 + 2 * p) (30 + 2 * p') 14).AJ (31 + 2 * p') i else (D.cpyJ (30 + 2 * p) (30 + 2 * p') 14).AJ x i) = _
    rw [cpy_at]
    by_cases c1 : x = 31 + 2 * p
    · rw [if_pos c1]
      by_cases c2 : i < 14
      · rw [if_pos ⟨c1, c2⟩, if_pos c2, rep_AJ h12 i (row_al hp').2]
      · rw [if_neg (fun q => c2 q.2), if_neg c2, rep_AJ h12 i (row_al hp).2, c1]
    · rw [if_neg (fun q => c1 q.1), if_neg c1]
theorem p_put {Φ : Hp → Prop} {p i : Nat} {o : Int} {u : Nat} (h : Rep A E ls nl nc nd S D) (hp : p < 11) (hi : i < rn p) (ho : Rg o) (hu : Rg u) (h0 : 0 < u) (k : ∀ S', Rep A E ls nl nc nd S' (putQ D p i (Rat.divInt o u)) → Φ S') : wX4_put S (A (9 + p)) (nI i) (i6 o) (i6 u) Φ := by
  obtain ⟨r1, r2, r3, r4, r5, r6, r7⟩ := row_ h hp
  have := rn_le p
  have hu0 : (0 : Int) < (u : Int) := by omega
  have hg0 := gcd_pos_r (N := o) hu0
  have hg := rg_gcd (N := o) hu0 hu
  unfold wX4_put wX4_put_b0
  refine p_commonOf ho hu ⟨r1, p_has1 h hp hi (if_n (by decide) (if_n ?_ (if_n ?_ ⟨r1, _, r2, i6_ne hg (by omega), r4, ?_, fun S14 e14 => ?_⟩)))⟩
  · rw [i6_0, cmp_le hu rg_0]
    omega
  · rw [i6_0, cmp_le hg rg_0]
    omega
  · rw [r6]
    exact in_nI hi (by omega)
  · have h14 : Rep A E ls nl nc nd S14 (D.setAJ (30 + 2 * p) i (i6 (Rat.divInt o u).num)) := by
      rw [e14, cl_nI (by omega), i6_div ho hg (Int.gcd_dvd_left o u), ← nf_num o hu0]
      exact set_AJ h i _ (row_al hp).1
    obtain ⟨s1, s2, s3, s4, s5, s6, s7⟩ := row_ h14 hp
    refine ⟨_, s3, i6_ne hg (by omega), s5, ?_, fun S19 e19 => k S19 ?_⟩
    · rw [s7]
      exact in_nI hi (by omega)
    · rw [e19, cl_nI (by omega), i6_div hu hg (Int.gcd_dvd_right o u), ← nf_den o hu0]
      exact set_AJ h14 i _ (row_al hp).2
theorem p_add {Φ : Hp → Prop} {p i M B1 B2 : Nat} {o : Int} {u : Nat} {q : Rat} (h : Rep A E ls nl nc nd S D) (hp : p < 11) (hi : i < rn p) (hq : Fq (D.AJ (30 + 2 * p) i) (D.AJ (31 + 2 * p) i) q)
    (b1 : Bq M B1 q) (b2 : Bp M B2 o u) (hM0 : 0 < M) (hM : M < 9223372036854775808) (hB : B1 + B2 < 9223372036854775808)
    (k : ∀ S', Rep A E ls nl nc nd S' (putQ D p i (q + Rat.divInt o u)) → Φ S') : wX4_add S (A (9 + p)) (nI i) (i6 o) (i6 u) Φ := by
  obtain ⟨r1, r2, r3, r4, r5, r6, r7⟩ := row_ h hp
  have := rn_le p
  obtain ⟨hqn, hqd⟩ := bp_rg b1 hM0 hM (by omega)
  obtain ⟨ho, hu⟩ := bp_rg b2 hM0 hM (by omega)
  have h0 : (0 : Int) < (u : Int) := by have := b2.1; omega
  have hd0 := den_pos q
  have hg0 : 0 < Int.gcd (q.den : Int) u := gcd_pos_r h0
  have hg := rg_gcd (N := (q.den : Int)) h0 hu
  obtain ⟨k1, k2, k3, k4, k5⟩ := bp_sum b1 b2 hM0 hM hB
  rw [← int_gcd_nat] at k1 k2 k3 k4 k5
  have e0 := q_add (a := q.num) (b := (q.den : Int)) (c := o) (d := (u : Int)) hd0 h0
  rw [q_self q] at e0
  unfold wX4_add wX4_add_b0
  refine ⟨r1, p_has1 h hp hi (if_n (by decide) (if_p ?_ ⟨r1, _, r3, r5, ?_, ?_⟩))⟩
  · rw [i6_0, cmp_gt hu rg_0]
    exact h0
  · rw [r7]
    exact in_nI hi (by omega)
  rw [cl_nI (by omega), rep_AJ h i (row_al hp).2, hq.2]
  refine p_commonOf hqd hu (if_p ?_ ⟨r1, _, r3, r5, ?_, i6_ne hg (by omega), _, r2, r4, ?_, i6_ne hg (by omega), ?_⟩)
  · rw [i6_0, cmp_gt hg rg_0]
    omega
  · rw [r7]
    exact in_nI hi (by omega)
  · rw [r6]
    exact in_nI hi (by omega)
  · rw [rep_AJ h i (row_al hp).1, rep_AJ h i (row_al hp).2, hq.1, hq.2, i6_div hu hg (Int.gcd_dvd_right _ _), i6_div hqd hg (Int.gcd_dvd_left _ _), i6_mul, i6_mul, i6_add, i6_mul]
    generalize hN : q.num * ((u : Int) / (Int.gcd (q.den : Int) u : Nat)) + o * ((q.den : Int) / (Int.gcd (q.den : Int) u : Nat)) = N at *
    generalize hDn : (q.den : Int) / (Int.gcd (q.den : Int) u : Nat) * (u : Int) = Dn at *
    have hc0 := gcd_pos_r (N := N) k5
    have hc := rg_gcd (N := N) k5 k4
    refine p_commonOf k3 k4 (if_n ?_ ⟨r1, _, r2, i6_ne hc (by omega), r4, ?_, fun S29 e29 => ?_⟩)
    · rw [i6_0, cmp_le hc rg_0]
      omega
    · rw [r6]
      exact in_nI hi (by omega)
    · have h29 : Rep A E ls nl nc nd S29 (D.setAJ (30 + 2 * p) i (i6 (q + Rat.divInt o u).num)) := by
        rw [e29, e0, i6_div k3 hc (Int.gcd_dvd_left N Dn), ← nf_num N k5]
        exact set_AJ h i _ (row_al hp).1
      obtain ⟨s1, s2, s3, s4, s5, s6, s7⟩ := row_ h29 hp
      refine ⟨_, s3, i6_ne hc (by omega), s5, ?_, fun S34 e34 => k S34 ?_⟩
      · rw [s7]
        exact in_nI hi (by omega)
      · rw [e34, i6_div k4 hc (Int.gcd_dvd_right N Dn), ← nf_den N k5, ← e0]
        exact set_AJ h29 i _ (row_al hp).2
/-- t times a fraction, rounded down -/
def fl (t : Int) (q : Rat) : Int := t * q.num / q.den
theorem p_wholeTimes {Φ : Hp → Int64 → Prop} {p i : Nat} {t : Nat} {q : Rat} (h : Rep A E ls nl nc nd S D) (hp : p < 11) (hi : i < rn p) (hq : Fq (D.AJ (30 + 2 * p) i) (D.AJ (31 + 2 * p) i) q)
    (s1 : Rg q.num) (s2 : Rg ((q.den : Int) * t)) (ht : 0 < t) (k : Φ S (i6 (fl t q))) : wX4_wholeTimes S (A (9 + p)) (nI i) (i6 t) Φ := by
  obtain ⟨r1, r2, r3, r4, r5, r6, r7⟩ := row_ h hp
  have := rn_le p
  have hd0 := den_pos q
  have hd : Rg (q.den : Int) := rg_abs (by rw [Int.natAbs_mul]; exact Nat.le_mul_of_pos_right _ (by omega)) s2
  have hge := Int.emod_nonneg q.num (show (q.den : Int) ≠ 0 by omega)
  have hlt := Int.emod_lt_of_pos q.num hd0
  have hr : Rg (q.num % (q.den : Int)) := by
    unfold Rg at *
    omega
  have hrt : Rg (q.num % (q.den : Int) * t) := rg_abs (by rw [Int.natAbs_mul, Int.natAbs_mul]; exact Nat.mul_le_mul_right _ (by omega)) s2
  have hx : ∀ n, n = rn p → vp_in (nI i) n := fun n e => by
    rw [e]
    exact in_nI hi (by omega)
  unfold wX4_wholeTimes wX4_wholeTimes_b0
  refine ⟨r1, p_has1 h hp hi (if_n (by decide) ⟨r1, _, r3, r5, hx _ r7, ?_⟩)⟩
  rw [cl_nI (by omega), rep_AJ h i (row_al hp).2, hq.2]
  refine if_p ?_ ⟨_, r2, r4, hx _ r6, _, r3, r5, hx _ r7, ?_⟩
  · rw [i6_0, cmp_gt hd rg_0]
    exact hd0
  rw [rep_AJ h i (row_al hp).1, rep_AJ h i (row_al hp).2, hq.1, hq.2]
  refine p_floorMod s1 hd hd0 ⟨r1, _, r2, r4, hx _ r6, _, r3, r5, hx _ r7, ?_⟩
  rw [rep_AJ h i (row_al hp).1, rep_AJ h i (row_al hp).2, hq.1, hq.2]
  refine p_floorDiv s1 hd hd0 ⟨r1, _, r3, r5, hx _ r7, ?_⟩
  rw [rep_AJ h i (row_al hp).2, hq.2, i6_mul]
  refine p_floorDiv hrt hd hd0 ?_
  rw [i6_mul, i6_add, whole_rest q.num t hd0, Int.mul_comm q.num]
  exact k
theorem p_isWholeTimes {Φ : Hp → Int32 → Prop} {p i : Nat} {t : Nat} {q : Rat} (h : Rep A E ls nl nc nd S D) (hp : p < 11) (hi : i < rn p) (hq : Fq (D.AJ (30 + 2 * p) i) (D.AJ (31 + 2 * p) i) q)
    (s1 : Rg (q.num * t)) (s2 : Rg (q.den : Int)) (hw : (q.den : Int) ∣ q.num * t) (k : Φ S 1) : wX4_isWholeTimes S (A (9 + p)) (nI i) (i6 t) Φ := by
  have hd0 := den_pos q
  unfold wX4_isWholeTimes wX4_isWholeTimes_b0
  refine ⟨(row_ h hp).1, p_underAt h hp hi ?_⟩
  rw [hq.2]
  refine if_n ?_ ⟨(row_ h hp).1, p_overAt h hp hi ?_⟩
  · rw [i6_0, cmp_le s2 rg_0]
    omega
  · rw [hq.1, i6_mul]
    refine ⟨i6_ne s2 (by omega), ?_⟩
    rw [i6_div s1 s2 hw, i6_mul, i6_sub, Int.mul_comm _ (q.den : Int), Int.mul_ediv_cancel' hw, Int.sub_self]
    exact fi_p (by rw [i6_0, cmp_eq rg_0 rg_0]) k
/-! the reference -/
end RW9
