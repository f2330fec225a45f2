/-! LIMITS, ANGLES of the class; bars, limits, angles of the reference -/
section LI9
variable {A E : Nat → Nat} {ls : Nat → List Nat} {nl nc nd : Nat} {S : Hp} {D : Dt}
theorem opp_le {v : Bool} {x y : Nat} (hx : x ≤ 999) (hy : y ≤ 999) : opp v x y ≤ 2000 := by
  unfold opp
  cases v
  · rw [if_neg (by decide)]
    omega
  · rw [if_pos rfl]
    omega
theorem p_cosineC {Φ : Hp → Option Nat → Prop} {o t p : Nat} (h : Rep A E ls nl nc nd S D) (ho : 1 ≤ o ∧ o ≤ 999) (ht : 1 ≤ t ∧ t ≤ 999) (hp : p ≤ 2000) (k0 : tri o t p = false → Φ S none) (k1 : tri o t p = true → ∀ S' a, Rep A E ls nl nc nd S' D → FrQ S' a (cosq o t p) → Φ S' (some a)) : wX0_cosine S (i6 (o : Int)) (i6 (t : Int)) (i6 (p : Int)) Φ := by
  obtain ⟨c1, c2, c3⟩ := cos_rg ho ht hp
  have ro : Rg (p : Int) := rg_n (by omega)
  have rot : Rg ((o : Int) + (t : Int)) := by unfold Rg; omega
  have rmt : Rg ((o : Int) - (t : Int)) := by unfold Rg; omega
  have rab : Rg ((((o : Int) - (t : Int)).natAbs : Nat) : Int) := rg_n (by omega)
  have e1 : (lg_cmp (i6 (p : Int)) (i6 0) ≤ 0) ↔ (p : Int) ≤ 0 := cmp_le ro rg_0
  have e2 : (0 ≤ lg_cmp (i6 (p : Int)) (i6 ((o : Int) + (t : Int)))) ↔ (o : Int) + (t : Int) ≤ (p : Int) := cmp_ge ro rot
  have e4 : (0 < lg_cmp (i6 (p : Int)) (i6 ((((o : Int) - (t : Int)).natAbs : Nat) : Int))) ↔ ((((o : Int) - (t : Int)).natAbs : Nat) : Int) < (p : Int) := cmp_gt ro rab
  have no : ¬ (0 < p ∧ p < o + t ∧ ((o : Int) - (t : Int)).natAbs < p) → Φ S none := fun q => k0 (decide_eq_false q)
  have fin : 0 < p ∧ p < o + t ∧ ((o : Int) - (t : Int)).natAbs < p → ∀ a, a ∉ S.L → wX3_init (S.new a 3 0) a (((i6 (o : Int) * i6 (o : Int)) + (i6 (t : Int) * i6 (t : Int))) - (i6 (p : Int) * i6 (p : Int))) ((2 * i6 (o : Int)) * i6 (t : Int)) (fun S6 => Φ S6 (some a)) := fun q a ha => by
    rw [i6_2, i6_mul, i6_mul, i6_mul, i6_mul, i6_mul, i6_add, i6_sub]
    exact p_frac h ha c1 c2 c3 (fun S' r' q' _ _ => k1 (decide_eq_true q) S' a r' q')
  unfold wX0_cosine wX0_cosine_b0
  rw [i6_0, i6_add, i6_sub, ← i6_0, i6_abs rmt]
  by_cases q1 : p = 0
  · exact if_p (e1.mpr (by omega)) (no (by omega))
  · refine if_n (fun q => by have := e1.mp q; omega) ?_
    by_cases q2 : o + t ≤ p
    · exact if_p (e2.mpr (by omega)) (no (by omega))
    · refine if_n (fun q => by have := e2.mp q; omega) ?_
      by_cases q3 : ((o : Int) - (t : Int)).natAbs < p
      · refine if_p (e4.mpr (by omega)) (fun a S5 ha e5 => ?_)
        rw [e5]
        exact fin ⟨by omega, by omega, q3⟩ a ha
      · exact if_n (fun q => by have := e4.mp q; omega) (no (by omega))
theorem oppe {v : Bool} {x y : Nat} (hx : x ≤ 999) (hy : y ≤ 999) : (v = false → (if 0 ≤ (nI x - nI y) then (nI x - nI y) else 0 - (nI x - nI y)) = nI (opp v x y)) ∧ (v = true → nI x + nI y = nI (opp v x y)) := by
  refine ⟨fun e => ?_, fun e => ?_⟩
  · rw [e, nI_dif (by omega) (by omega)]
    rfl
  · rw [e, nI_add]
    rfl
theorem p_limitC {Φ : Hp → Option Nat → Prop} {q a b c d : Nat} {v : Bool} (h : Rep A E ls nl nc nd S D) (hN : okN a b c d) (iq : isA S q 0) (v0 : S.FI 0 q = nI a) (v1 : S.FI 1 q = nI b) (v2 : S.FI 2 q = nI c) (v3 : S.FI 3 q = nI d) (k0 : tri c d (opp v a b) = false → Φ S none) (k1 : tri c d (opp v a b) = true → ∀ S' f, Rep A E ls nl nc nd S' D → FrQ S' f (cosq c d (opp v a b)) → Φ S' (some f)) : wX0_limit S q (bI v) Φ := by
  obtain ⟨hA, hB, hC, hD⟩ := hN
  have le := opp_le (v := v) hA.2 hB.2
  have oe := oppe (v := v) hA.2 hB.2
  unfold wX0_limit wX0_limit_b0 wX0_limit_b40
  rw [v0, v1, v2, v3]
  refine ⟨iq, ?_⟩
  cases ev : v with
  | false =>
    rw [oe.1 ev, nI64 (by omega), nI64 (by omega), nI64 (by omega)]
    exact if_p rfl (p_cosineC h hC hD le k0 k1)
  | true =>
    rw [oe.2 ev, nI64 (by omega), nI64 (by omega), nI64 (by omega)]
    exact if_n (by decide) (p_cosineC h hC hD le k0 k1)
theorem p_angleC {Φ : Hp → Option Nat → Prop} {q a b c d : Nat} {v : Bool} (h : Rep A E ls nl nc nd S D) (hN : okN a b c d) (iq : isA S q 0) (v0 : S.FI 0 q = nI a) (v1 : S.FI 1 q = nI b) (v2 : S.FI 2 q = nI c) (v3 : S.FI 3 q = nI d) (k0 : tri b c (opp v a d) = false → Φ S none) (k1 : tri b c (opp v a d) = true → ∀ S' f, Rep A E ls nl nc nd S' D → FrQ S' f (cosq b c (opp v a d)) → Φ S' (some f)) : wX0_angle S q (bI v) Φ := by
  obtain ⟨hA, hB, hC, hD⟩ := hN
  have le := opp_le (v := v) hA.2 hD.2
  have oe := oppe (v := v) hA.2 hD.2
  unfold wX0_angle wX0_angle_b0 wX0_angle_b40
  rw [v0, v1, v2, v3]
  refine ⟨iq, ?_⟩
  cases ev : v with
  | false =>
    rw [oe.1 ev, nI64 (by omega), nI64 (by omega), nI64 (by omega)]
    exact if_p rfl (p_cosineC h hB hC le k0 k1)
  | true =>
    rw [oe.2 ev, nI64 (by omega), nI64 (by omega), nI64 (by omega)]
    exact if_n (by decide) (p_cosineC h hB hC le k0 k1)
theorem p_limitOverC {Φ : Hp → Int64 → Prop} {Ψ : Hp → String → Prop} {x1 x2 x3 x4 : Int32} {v : Bool} (h : Rep A E ls nl nc nd S D) (kt1 : ¬ okB x1 x2 x3 x4 → Ψ S "java/lang/IllegalArgumentException")
    (kt2 : ∀ a b c d, okN a b c d → x1 = nI a → x2 = nI b → x3 = nI c → x4 = nI d → tri c d (opp v a b) = false → ∀ S', Rep A E ls nl nc nd S' D → Ψ S' "java/util/NoSuchElementException")
    (kk : ∀ a b c d, okN a b c d → x1 = nI a → x2 = nI b → x3 = nI c → x4 = nI d → tri c d (opp v a b) = true → ∀ S', Rep A E ls nl nc nd S' D → Φ S' (i6 (cosq c d (opp v a b)).num)) : wX7_limitOver S (A 0) x1 x2 x3 x4 (bI v) Φ Ψ := by
  unfold wX7_limitOver wX7_limitOver_b0
  refine p_barsOf h kt1 (fun a b c d hN e1 e2 e3 e4 S1 q r1 iq v0 v1 v2 v3 => ⟨q, rfl, iq, p_limitC r1 hN iq v0 v1 v2 v3 (fun z => ?_) (fun z S2 f r2 fq => ?_)⟩)
  · exact kt2 a b c d hN e1 e2 e3 e4 z S1 r1
  · refine ⟨f, rfl, fq.1, ?_⟩
    rw [fq.2.1]
    exact kk a b c d hN e1 e2 e3 e4 z S2 r2
theorem p_limitUnderC {Φ : Hp → Int64 → Prop} {Ψ : Hp → String → Prop} {x1 x2 x3 x4 : Int32} {v : Bool} (h : Rep A E ls nl nc nd S D) (kt1 : ¬ okB x1 x2 x3 x4 → Ψ S "java/lang/IllegalArgumentException")
    (kt2 : ∀ a b c d, okN a b c d → x1 = nI a → x2 = nI b → x3 = nI c → x4 = nI d → tri c d (opp v a b) = false → ∀ S', Rep A E ls nl nc nd S' D → Ψ S' "java/util/NoSuchElementException")
    (kk : ∀ a b c d, okN a b c d → x1 = nI a → x2 = nI b → x3 = nI c → x4 = nI d → tri c d (opp v a b) = true → ∀ S', Rep A E ls nl nc nd S' D → Φ S' (i6 (cosq c d (opp v a b)).den)) : wX7_limitUnder S (A 0) x1 x2 x3 x4 (bI v) Φ Ψ := by
  unfold wX7_limitUnder wX7_limitUnder_b0
  refine p_barsOf h kt1 (fun a b c d hN e1 e2 e3 e4 S1 q r1 iq v0 v1 v2 v3 => ⟨q, rfl, iq, p_limitC r1 hN iq v0 v1 v2 v3 (fun z => ?_) (fun z S2 f r2 fq => ?_)⟩)
  · exact kt2 a b c d hN e1 e2 e3 e4 z S1 r1
  · refine ⟨f, rfl, fq.1, ?_⟩
    rw [fq.2.2]
    exact kk a b c d hN e1 e2 e3 e4 z S2 r2
theorem p_angleOverC {Φ : Hp → Int64 → Prop} {Ψ : Hp → String → Prop} {x1 x2 x3 x4 : Int32} {v : Bool} (h : Rep A E ls nl nc nd S D) (kt1 : ¬ okB x1 x2 x3 x4 → Ψ S "java/lang/IllegalArgumentException")
    (kt2 : ∀ a b c d, okN a b c d → x1 = nI a → x2 = nI b → x3 = nI c → x4 = nI d → tri b c (opp v a d) = false → ∀ S', Rep A E ls nl nc nd S' D → Ψ S' "java/util/NoSuchElementException")
    (kk : ∀ a b c d, okN a b c d → x1 = nI a → x2 = nI b → x3 = nI c → x4 = nI d → tri b c (opp v a d) = true → ∀ S', Rep A E ls nl nc nd S' D → Φ S' (i6 (cosq b c (opp v a d)).num)) : wX7_angleOver S (A 0) x1 x2 x3 x4 (bI v) Φ Ψ := by
  unfold wX7_angleOver wX7_angleOver_b0
  refine p_barsOf h kt1 (fun a b c d hN e1 e2 e3 e4 S1 q r1 iq v0 v1 v2 v3 => ⟨q, rfl, iq, p_angleC r1 hN iq v0 v1 v2 v3 (fun z => ?_) (fun z S2 f r2 fq => ?_)⟩)
  · exact kt2 a b c d hN e1 e2 e3 e4 z S1 r1
  · refine ⟨f, rfl, fq.1, ?_⟩
    rw [fq.2.1]
    exact kk a b c d hN e1 e2 e3 e4 z S2 r2
theorem p_angleUnderC {Φ : Hp → Int64 → Prop} {Ψ : Hp → String → Prop} {x1 x2 x3 x4 : Int32} {v : Bool} (h : Rep A E ls nl nc nd S D) (kt1 : ¬ okB x1 x2 x3 x4 → Ψ S "java/lang/IllegalArgumentException")
    (kt2 : ∀ a b c d, okN a b c d → x1 = nI a → x2 = nI b → x3 = nI c → x4 = nI d → tri b c (opp v a d) = false → ∀ S', Rep A E ls nl nc nd S' D → Ψ S' "java/util/NoSuchElementException")
    (kk : ∀ a b c d, okN a b c d → x1 = nI a → x2 = nI b → x3 = nI c → x4 = nI d → tri b c (opp v a d) = true → ∀ S', Rep A E ls nl nc nd S' D → Φ S' (i6 (cosq b c (opp v a d)).den)) : wX7_angleUnder S (A 0) x1 x2 x3 x4 (bI v) Φ Ψ := by
  unfold wX7_angleUnder wX7_angleUnder_b0
  refine p_barsOf h kt1 (fun a b c d hN e1 e2 e3 e4 S1 q r1 iq v0 v1 v2 v3 => ⟨q, rfl, iq, p_angleC r1 hN iq v0 v1 v2 v3 (fun z => ?_) (fun z S2 f r2 fq => ?_)⟩)
  · exact kt2 a b c d hN e1 e2 e3 e4 z S1 r1
  · refine ⟨f, rfl, fq.1, ?_⟩
    rw [fq.2.2]
    exact kk a b c d hN e1 e2 e3 e4 z S2 r2
theorem p_areNoBars {Φ : Hp → Int32 → Prop} {x1 x2 x3 x4 : Int32} (h : Rep A E ls nl nc nd S D) (k1 : ¬ okB x1 x2 x3 x4 → ∀ S' D', Rep A E ls nl nc nd S' D' → Thr 1 D D' → Φ S' 1) (k0 : ∀ a b c d, okN a b c d → x1 = nI a → x2 = nI b → x3 = nI c → x4 = nI d → ∀ S' D', Rep A E ls nl nc nd S' D' → Thr 0 D D' → Φ S' 0) : wX8_areNoBars S (A 70) x1 x2 x3 x4 Φ := by
  have bad : ¬ okB x1 x2 x3 x4 → wX8_areNoBars_b46 (A 70) x1 x2 x3 x4 Φ S (A 70) := fun q => by
    unfold wX8_areNoBars_b46 wX8_areNoBars_b51
    exact ⟨m_is h, t_isThrown true h rfl (fun e => absurd e (by decide)) (fun _ S1 D1 r1 t1 => ⟨rfl, k1 q S1 D1 r1 t1⟩)⟩
  unfold wX8_areNoBars wX8_areNoBars_b0
  refine t_isIn ?_
  by_cases c1 : (1 : Int32).toInt ≤ x1.toInt ∧ x1.toInt ≤ (999 : Int32).toInt
  · rw [decide_eq_true c1]
    refine if_n (by decide) (t_isIn ?_)
    by_cases c2 : (1 : Int32).toInt ≤ x2.toInt ∧ x2.toInt ≤ (999 : Int32).toInt
    · rw [decide_eq_true c2]
      refine if_n (by decide) (t_isIn ?_)
      by_cases c3 : (1 : Int32).toInt ≤ x3.toInt ∧ x3.toInt ≤ (999 : Int32).toInt
      · rw [decide_eq_true c3]
        refine if_n (by decide) (t_isIn ?_)
        by_cases c4 : (1 : Int32).toInt ≤ x4.toInt ∧ x4.toInt ≤ (999 : Int32).toInt
        · rw [decide_eq_true c4]
          refine fi_n (by decide) ?_
          obtain ⟨a, b, c, d, hN, e1, e2, e3, e4⟩ := okB_ex (x1 := x1) (x2 := x2) (x3 := x3) (x4 := x4) ⟨c1, c2, c3, c4⟩
          unfold wX8_areNoBars_b51
          exact ⟨m_is h, t_isThrown false h rfl (fun _ S1 D1 r1 t1 => ⟨rfl, k0 a b c d hN e1 e2 e3 e4 S1 D1 r1 t1⟩) (fun e => absurd e (by decide))⟩
        · rw [decide_eq_false c4]
          exact fi_p rfl (bad (fun q => c4 q.2.2.2))
      · rw [decide_eq_false c3]
        exact if_p rfl (bad (fun q => c3 q.2.2.1))
    · rw [decide_eq_false c2]
      exact if_p rfl (bad (fun q => c2 q.2.1))
  · rw [decide_eq_false c1]
    exact if_p rfl (bad (fun q => c1 q.1))
theorem p_barsM {Φ : Hp → Int32 → Prop} {x1 x2 x3 x4 : Int32} (h : Rep A E ls nl nc nd S D) (k1 : ¬ okB x1 x2 x3 x4 → ∀ S' D', Rep A E ls nl nc nd S' D' → Thr 1 D D' → Φ S' 32)
    (kk : ∀ a b c d, okN a b c d → x1 = nI a → x2 = nI b → x3 = nI c → x4 = nI d → ∀ S' D', Rep A E ls nl nc nd S' D' → Thr 0 D D' → Φ S' (nI (brl a b c d))) : wX8_bars S (A 70) x1 x2 x3 x4 Φ := by
  unfold wX8_bars wX8_bars_b0
  refine ⟨m_is h, p_areNoBars h (fun q S1 D1 r1 t1 => if_n (by decide) (k1 q S1 D1 r1 t1)) (fun a b c d hN e1 e2 e3 e4 S1 D1 r1 t1 => if_p rfl ?_)⟩
  have go : ∀ n, n = brl a b c d → Φ S1 (nI n) := fun n e => by
    rw [e]
    exact kk a b c d hN e1 e2 e3 e4 S1 D1 r1 t1
  obtain ⟨m1, m2, m3, m4, m5⟩ := bM_b hN
  rw [e1, e2, e3, e4, mx4 hN, mn4 hN, nI_add, nI_add, nI_add, nI_add, show (2 : Int32) = nI 2 from rfl, nI_mul, nI_mul]
  obtain ⟨⟨a1, a2⟩, ⟨b1, b2⟩, ⟨c1, c2⟩, ⟨d1, d2⟩⟩ := hN
  unfold brl at go
  generalize bMax a b c d = L at *
  generalize bMin a b c d = s at *
  by_cases t1 : a + b + c + d ≤ 2 * L
  · rw [if_pos t1] at go
    exact if_n (nI_nlt (by omega) (by omega)) (go 120 rfl)
  · rw [if_neg t1] at go
    refine if_p (nI_lt (by omega) (by omega)) ?_
    by_cases t2 : 2 * (L + s) = a + b + c + d
    · rw [if_pos t2] at go
      exact if_n (nI_nlt (by omega) (by omega)) (fi_p ((nI_iff (by omega) (by omega)).mpr (by omega)) (go 101 rfl))
    · rw [if_neg t2] at go
      by_cases t3 : a + b + c + d < 2 * (L + s)
      · rw [if_pos t3] at go
        exact if_n (nI_nlt (by omega) (by omega)) (fi_n (fun q => by have := (nI_iff (by omega) (by omega)).mp q; omega) (go 116 rfl))
      · rw [if_neg t3] at go
        refine if_p (nI_lt (by omega) (by omega)) ?_
        by_cases t4 : a = s
        · rw [if_pos t4] at go
          exact fi_p (by rw [t4]) (go 99 rfl)
        · rw [if_neg t4] at go
          refine fi_n (fun q => t4 ((nI_iff (by omega) (by omega)).mp q)) ?_
          by_cases t5 : c = s
          · rw [if_pos t5] at go
            exact fi_p (by rw [t5]) (go 114 rfl)
          · rw [if_neg t5] at go
            refine fi_n (fun q => t5 ((nI_iff (by omega) (by omega)).mp q)) ?_
            by_cases t6 : d = s
            · rw [if_pos t6] at go
              exact fi_p (by rw [t6]) (go 100 rfl)
            · rw [if_neg t6] at go
              exact fi_n (fun q => t6 ((nI_iff (by omega) (by omega)).mp q)) (go 111 rfl)
theorem p_cosineM {Φ : Hp → Int64 → Prop} {o t p : Nat} {ov : Bool} (h : Rep A E ls nl nc nd S D) (ho : 1 ≤ o ∧ o ≤ 999) (ht : 1 ≤ t ∧ t ≤ 999) (hp : p ≤ 2000) (k0 : tri o t p = false → ∀ S' D', Rep A E ls nl nc nd S' D' → Thr 2 D D' → Φ S' 0) (k1 : tri o t p = true → ∀ S' D', Rep A E ls nl nc nd S' D' → Thr 0 D D' → Φ S' (pick ov (cosq o t p))) : wX8_cosine S (A 70) (nI o) (nI t) (nI p) (bI ov) Φ := by
  obtain ⟨c1, c2, c3⟩ := cos_rg ho ht hp
  have no : ¬ (0 < p ∧ p < o + t ∧ ((o : Int) - (t : Int)).natAbs < p) → wX8_cosine_b22 (A 70) (nI o) (nI t) (nI p) (bI ov) Φ S (A 70) := fun q => by
    unfold wX8_cosine_b22 wX8_cosine_b27
    exact ⟨m_is h, t_isThrown true h rfl (fun e => absurd e (by decide)) (fun _ S1 D1 r1 t1 => if_n (by decide) (k0 (decide_eq_false q) S1 D1 r1 t1))⟩
  unfold wX8_cosine wX8_cosine_b0
  rw [nI_add, nI_dif (by omega) (by omega)]
  by_cases q1 : p = 0
  · exact if_p (nI_le (b := 0) (by omega) (by decide)) (no (by omega))
  · refine if_n (nI_ge (a := 0) (by omega) (by omega)) ?_
    by_cases q2 : o + t ≤ p
    · exact if_p (nI_le q2 (by omega)) (no (by omega))
    · refine if_n (nI_ge (by omega) (by omega)) ?_
      by_cases q3 : ((o : Int) - (t : Int)).natAbs < p
      · refine if_p (nI_lt q3 (by omega)) ?_
        unfold wX8_cosine_b27
        refine ⟨m_is h, t_isThrown false h rfl (fun _ S1 D1 r1 t1 => if_p rfl ⟨m_is r1, ?_⟩) (fun e => absurd e (by decide))⟩
        rw [nI64 (by omega), nI64 (by omega), nI64 (by omega), i6_mul, i6_mul, i6_add, i6_mul, i6_sub, i6_2, i6_mul, i6_mul]
        refine t_result r1 c1 c2 c3 (fun S' D' r' t' q' => ?_)
        obtain ⟨o1, o2⟩ := m_top r' q'
        rw [o1, o2]
        have z := k1 (decide_eq_true ⟨by omega, by omega, q3⟩) S' D' r' (t1.T t')
        cases ov with
        | true => exact if_n (by decide) ⟨m_is r', z⟩
        | false => exact if_p rfl ⟨m_is r', z⟩
      · exact if_n (nI_nlt (by omega) (by omega)) (no (by omega))
theorem p_limitM {Φ : Hp → Int64 → Prop} {x1 x2 x3 x4 : Int32} {v ov : Bool} (h : Rep A E ls nl nc nd S D) (kt1 : ¬ okB x1 x2 x3 x4 → ∀ S' D', Rep A E ls nl nc nd S' D' → Thr 1 D D' → Φ S' 0)
    (kt2 : ∀ a b c d, okN a b c d → x1 = nI a → x2 = nI b → x3 = nI c → x4 = nI d → tri c d (opp v a b) = false → ∀ S' D', Rep A E ls nl nc nd S' D' → Thr 2 D D' → Φ S' 0)
    (kk : ∀ a b c d, okN a b c d → x1 = nI a → x2 = nI b → x3 = nI c → x4 = nI d → tri c d (opp v a b) = true → ∀ S' D', Rep A E ls nl nc nd S' D' → Thr 0 D D' → Φ S' (pick ov (cosq c d (opp v a b)))) : wX8_limit S (A 70) x1 x2 x3 x4 (bI v) (bI ov) Φ := by
  unfold wX8_limit wX8_limit_b0 wX8_limit_b35
  refine ⟨m_is h, p_areNoBars h (fun q S1 D1 r1 t1 => if_n (by decide) (kt1 q S1 D1 r1 t1)) (fun a b c d hN e1 e2 e3 e4 S1 D1 r1 t1 => if_p rfl ?_)⟩
  have hN' := hN
  obtain ⟨hA, hB, hC, hD⟩ := hN'
  have le := opp_le (v := v) hA.2 hB.2
  have oe := oppe (v := v) hA.2 hB.2
  have main : wX8_cosine S1 (A 70) (nI c) (nI d) (nI (opp v a b)) (bI ov) (fun S1 r2 => Φ S1 r2) := p_cosineM r1 hC hD le (fun z S2 D2 r2 t2 => kt2 a b c d hN e1 e2 e3 e4 z S2 D2 r2 (t1.tr t2)) (fun z S2 D2 r2 t2 => kk a b c d hN e1 e2 e3 e4 z S2 D2 r2 (t1.tr t2))
  rw [e1, e2, e3, e4]
  cases ev : v with
  | false =>
    rw [oe.1 ev]
    exact if_p rfl ⟨m_is r1, main⟩
  | true =>
    rw [oe.2 ev]
    exact if_n (by decide) ⟨m_is r1, main⟩
theorem p_angleM {Φ : Hp → Int64 → Prop} {x1 x2 x3 x4 : Int32} {v ov : Bool} (h : Rep A E ls nl nc nd S D) (kt1 : ¬ okB x1 x2 x3 x4 → ∀ S' D', Rep A E ls nl nc nd S' D' → Thr 1 D D' → Φ S' 0)
    (kt2 : ∀ a b c d, okN a b c d → x1 = nI a → x2 = nI b → x3 = nI c → x4 = nI d → tri b c (opp v a d) = false → ∀ S' D', Rep A E ls nl nc nd S' D' → Thr 2 D D' → Φ S' 0)
    (kk : ∀ a b c d, okN a b c d → x1 = nI a → x2 = nI b → x3 = nI c → x4 = nI d → tri b c (opp v a d) = true → ∀ S' D', Rep A E ls nl nc nd S' D' → Thr 0 D D' → Φ S' (pick ov (cosq b c (opp v a d)))) : wX8_angle S (A 70) x1 x2 x3 x4 (bI v) (bI ov) Φ := by
  unfold wX8_angle wX8_angle_b0 wX8_angle_b36
  refine ⟨m_is h, p_areNoBars h (fun q S1 D1 r1 t1 => if_n (by decide) (kt1 q S1 D1 r1 t1)) (fun a b c d hN e1 e2 e3 e4 S1 D1 r1 t1 => if_p rfl ?_)⟩
  have hN' := hN
  obtain ⟨hA, hB, hC, hD⟩ := hN'
  have le := opp_le (v := v) hA.2 hD.2
  have oe := oppe (v := v) hA.2 hD.2
  have main : wX8_cosine S1 (A 70) (nI b) (nI c) (nI (opp v a d)) (bI ov) (fun S1 r2 => Φ S1 r2) := p_cosineM r1 hB hC le (fun z S2 D2 r2 t2 => kt2 a b c d hN e1 e2 e3 e4 z S2 D2 r2 (t1.tr t2)) (fun z S2 D2 r2 t2 => kk a b c d hN e1 e2 e3 e4 z S2 D2 r2 (t1.tr t2))
  rw [e1, e2, e3, e4]
  cases ev : v with
  | false =>
    rw [oe.1 ev]
    exact if_p rfl ⟨m_is r1, main⟩
  | true =>
    rw [oe.2 ev]
    exact if_n (by decide) ⟨m_is r1, main⟩
end LI9
