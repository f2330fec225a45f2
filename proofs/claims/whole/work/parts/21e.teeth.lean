/-! TEETH, PAIRS -/
def okR (x1 x2 : Int32) : Prop := (1 ≤ x1.toInt ∧ x1.toInt ≤ 9999) ∧ (1 ≤ x2.toInt ∧ x2.toInt ≤ 9999)
def prF (x1 x2 : Int32) (a b : Nat) : Bool := decide (nI (6 + a) * x2 = nI (6 + b) * x1)
def prN (x1 x2 : Int32) : Nat := sumN (fun a => cnt 25 (prF x1 x2 a)) 25
def lcN : Nat := 2329089562800
def dd (o u p q : Nat) : Nat := ((p : Int) * u - (o : Int) * q).natAbs
def kyt (o u p q : Nat) : Nat := (dd o u p q * (lcN / q) * 100 + (p + q)) * 100 + p
def inT (p : Nat) : Prop := 6 ≤ p ∧ p ≤ 30
def TMin (o u f s : Nat) : Prop := inT f ∧ inT s ∧ ∀ p q, inT p → inT q → kyt o u f s ≤ kyt o u p q
theorem lcN_q : ∀ q, q < 31 → 6 ≤ q → lcN / q * q = lcN := by decide +kernel
theorem key_lt {a b q r : Nat} (hq : inT q) (hr : inT r) : a * r < b * q ↔ a * (lcN / q) < b * (lcN / r) := by
  have e1 := lcN_q q (by have := hq.2; omega) hq.1
  have e2 := lcN_q r (by have := hr.2; omega) hr.1
  have p0 : 0 < q * r := Nat.mul_pos (by have := hq.1; omega) (by have := hr.1; omega)
  have n0 : 0 < lcN := by decide
  have f1 : a * (lcN / q) * (q * r) = a * r * lcN := by
    rw [show a * (lcN / q) * (q * r) = a * r * (lcN / q * q) by ac_rfl, e1]
  have f2 : b * (lcN / r) * (q * r) = b * q * lcN := by
    rw [show b * (lcN / r) * (q * r) = b * q * (lcN / r * r) by ac_rfl, e2]
  have A1 : a * r < b * q ↔ a * r * lcN < b * q * lcN := (Nat.mul_lt_mul_right n0).symm
  have A2 : a * (lcN / q) < b * (lcN / r) ↔ a * (lcN / q) * (q * r) < b * (lcN / r) * (q * r) := (Nat.mul_lt_mul_right p0).symm
  rw [A1, A2, f1, f2]
theorem key_eq {a b q r : Nat} (hq : inT q) (hr : inT r) : a * r = b * q ↔ a * (lcN / q) = b * (lcN / r) := by
  have h1 := key_lt (a := a) (b := b) hq hr
  have h2 := key_lt (a := b) (b := a) hr hq
  constructor
  · intro e
    have n1 : ¬ a * (lcN / q) < b * (lcN / r) := fun x => by have := h1.mpr x; omega
    have n2 : ¬ b * (lcN / r) < a * (lcN / q) := fun x => by have := h2.mpr x; omega
    omega
  · intro e
    have n1 : ¬ a * r < b * q := fun x => by have := h1.mp x; omega
    have n2 : ¬ b * q < a * r := fun x => by have := h2.mp x; omega
    omega
theorem tmin_uniq {o u f s f' s' : Nat} (h : TMin o u f s) (h' : TMin o u f' s') : f = f' ∧ s = s' := by
  have e1 := h.2.2 f' s' h'.1 h'.2.1
  have e2 := h'.2.2 f s h.1 h.2.1
  have e : kyt o u f s = kyt o u f' s' := by omega
  obtain ⟨⟨a1, a2⟩, ⟨b1, b2⟩, -⟩ := h
  obtain ⟨⟨c1, c2⟩, ⟨d1, d2⟩, -⟩ := h'
  unfold kyt at e
  omega
theorem dd_b {o u p q : Nat} (ho : o ≤ 9999) (hu : u ≤ 9999) (hp : inT p) (hq : inT q) : dd o u p q ≤ 300000 := by
  have m1 : p * u ≤ 30 * 9999 := Nat.mul_le_mul hp.2 hu
  have m2 : o * q ≤ 9999 * 30 := Nat.mul_le_mul ho hq.2
  unfold dd
  rw [← Int.natCast_mul, ← Int.natCast_mul]
  omega
theorem dd_i6 {o u p q : Nat} (ho : o ≤ 9999) (hu : u ≤ 9999) (hp : inT p) (hq : inT q) : (if 0 < (i6 (p : Int) * i6 (u : Int) - i6 (o : Int) * i6 (q : Int)) then (i6 (p : Int) * i6 (u : Int) - i6 (o : Int) * i6 (q : Int)) else -(i6 (p : Int) * i6 (u : Int) - i6 (o : Int) * i6 (q : Int))) = i6 ((dd o u p q : Nat) : Int) := by
  have b := dd_b ho hu hp hq
  rw [i6_mul, i6_mul, i6_sub]
  refine i6_abs ?_
  unfold dd at b
  exact rg_sm (by omega)
theorem dd_cmp {o u p q f s : Nat} (ho : o ≤ 9999) (hu : u ≤ 9999) (hp : inT p) (hq : inT q) (hf : inT f) (hs : inT s) : (lg_cmp (i6 ((dd o u p q : Nat) : Int) * i6 (s : Int)) (i6 ((dd o u f s : Nat) : Int) * i6 (q : Int)) = 0 ↔ dd o u p q * (lcN / q) = dd o u f s * (lcN / s)) ∧ (0 ≤ lg_cmp (i6 ((dd o u p q : Nat) : Int) * i6 (s : Int)) (i6 ((dd o u f s : Nat) : Int) * i6 (q : Int)) ↔ ¬ dd o u p q * (lcN / q) < dd o u f s * (lcN / s)) := by
  have b1 := dd_b ho hu hp hq
  have b2 := dd_b ho hu hf hs
  have m1 : dd o u p q * s ≤ 300000 * 30 := Nat.mul_le_mul b1 hs.2
  have m2 : dd o u f s * q ≤ 300000 * 30 := Nat.mul_le_mul b2 hq.2
  rw [i6_mul, i6_mul, ← Int.natCast_mul, ← Int.natCast_mul, ← key_eq hq hs, ← key_lt hq hs]
  generalize dd o u p q * s = x at *
  generalize dd o u f s * q = y at *
  refine ⟨(cmp_eq (rg_n (by omega)) (rg_n (by omega))).trans ⟨fun q => by omega, fun q => by omega⟩, (cmp_ge (rg_n (by omega)) (rg_n (by omega))).trans ⟨fun q => by omega, fun q => by omega⟩⟩
theorem okR_ex {x1 x2 : Int32} (h : okR x1 x2) : ∃ o u, x1 = nI o ∧ x2 = nI u ∧ o ≤ 9999 ∧ u ≤ 9999 := by
  obtain ⟨o, ho, e1⟩ := inR_ex (x := x1) (n := 10000) ⟨by have := h.1; omega, by have := h.1; omega⟩ (by decide)
  obtain ⟨u, hu, e2⟩ := inR_ex (x := x2) (n := 10000) ⟨by have := h.2; omega, by have := h.2; omega⟩ (by decide)
  exact ⟨o, u, e1, e2, by omega, by omega⟩
section TE9
variable {A E : Nat → Nat} {ls : Nat → List Nat} {nl nc nd : Nat} {S : Hp} {D : Dt}
theorem p_isBetter {Φ : Hp → Int32 → Prop} {o u p q f s : Nat} (ho : o ≤ 9999) (hu : u ≤ 9999) (hp : inT p) (hq : inT q) (hf : inT f) (hs : inT s) (kk : Φ S (bI (decide (kyt o u p q < kyt o u f s)))) : wX7_isBetterPair S (nI p) (nI q) (nI f) (nI s) (nI o) (nI u) Φ := by
  obtain ⟨c1, c2⟩ := dd_cmp ho hu hp hq hf hs
  obtain ⟨p1, p2⟩ := hp
  obtain ⟨q1, q2⟩ := hq
  obtain ⟨f1, f2⟩ := hf
  obtain ⟨s1, s2⟩ := hs
  unfold wX7_isBetterPair wX7_isBetterPair_b0
  rw [nI64 (n := p) (by omega), nI64 (n := q) (by omega), nI64 (n := f) (by omega), nI64 (n := s) (by omega), nI64 (n := o) (by omega), nI64 (n := u) (by omega), dd_i6 ho hu ⟨p1, p2⟩ ⟨q1, q2⟩, dd_i6 ho hu ⟨f1, f2⟩ ⟨s1, s2⟩, nI_add, nI_add]
  have no : ¬ kyt o u p q < kyt o u f s → Φ S 0 := fun z => by
    rw [decide_eq_false z] at kk
    exact kk
  have ye : kyt o u p q < kyt o u f s → Φ S 1 := fun z => by
    rw [decide_eq_true z] at kk
    exact kk
  unfold kyt at no ye
  generalize dd o u p q * (lcN / q) = x at *
  generalize dd o u f s * (lcN / s) = y at *
  by_cases t1 : x = y
  · refine if_p (c1.mpr t1) ?_
    by_cases t2 : p + q = f + s
    · refine if_p (by rw [t2]) ?_
      by_cases t3 : f ≤ p
      · exact if_p (nI_le t3 (by omega)) (no (by omega))
      · exact if_n (nI_ge (by omega) (by omega)) (ye (by omega))
    · refine if_n (fun z => t2 ((nI_iff (by omega) (by omega)).mp z)) ?_
      by_cases t3 : f + s ≤ p + q
      · exact if_p (nI_le t3 (by omega)) (no (by omega))
      · exact if_n (nI_ge (by omega) (by omega)) (ye (by omega))
  · refine if_n (fun z => t1 (c1.mp z)) ?_
    by_cases t2 : x < y
    · exact if_n (fun z => c2.mp z t2) (ye (by omega))
    · exact if_p (c2.mpr t2) (no (by omega))
theorem p_teethC {Φ : Hp → Int32 → Prop} {Ψ : Hp → String → Prop} {x1 x2 : Int32} {v : Bool} (kt : ¬ okR x1 x2 → Ψ S "java/lang/IllegalArgumentException") (kkR : okR x1 x2 → ∀ o u f s, o ≤ 9999 → u ≤ 9999 → x1 = nI o → x2 = nI u → TMin o u f s → Φ S (nI (if v then f else s))) : wX7_teeth S (A 0) x1 x2 (bI v) Φ Ψ := by
  unfold wX7_teeth wX7_teeth_b0
  refine p_checkRange (fun a1 a2 => p_checkRange (fun b1 b2 => ?_) (fun q => kt (fun w => q w.2))) (fun q => kt (fun w => q w.1))
  obtain ⟨o, u, e1, e2, ho, hu⟩ := okR_ex (x1 := x1) (x2 := x2) ⟨⟨a1, a2⟩, ⟨b1, b2⟩⟩
  have kk := kkR ⟨⟨a1, a2⟩, ⟨b1, b2⟩⟩
  refine it4_ex (fun i T a b c => T = S ∧ c = nI (6 + i) ∧ ∃ f s, a = nI f ∧ b = nI s ∧ inT f ∧ inT s ∧ ∀ p q, 6 ≤ p → p < 6 + i → inT q → kyt o u f s ≤ kyt o u p q) 25 ?_ ?_ ⟨rfl, rfl, 6, 6, rfl, rfl, ⟨by decide, by decide⟩, ⟨by decide, by decide⟩, fun p q h1 h2 => absurd h2 (by omega)⟩
  · rintro i hi T _ _ _ k9 ⟨rfl, rfl, f, s, rfl, rfl, hf, hs, hm⟩ hk9
    unfold wX7_teeth_b28
    refine if_n (nI_nlt (a := 30) (b := 6 + i) (by omega) (by decide)) ?_
    refine it5_ex (fun j T' a b c d => T' = T ∧ c = nI (6 + i) ∧ d = nI (6 + j) ∧ ∃ f s, a = nI f ∧ b = nI s ∧ inT f ∧ inT s ∧ (∀ p q, 6 ≤ p → p < 6 + i → inT q → kyt o u f s ≤ kyt o u p q) ∧ ∀ q, 6 ≤ q → q < 6 + j → kyt o u f s ≤ kyt o u (6 + i) q) 25 ?_ ?_ ⟨rfl, rfl, rfl, f, s, rfl, rfl, hf, hs, hm, fun q h1 h2 => absurd h2 (by omega)⟩
    · rintro j hj T' _ _ _ _ k8 ⟨rfl, rfl, rfl, f, s, rfl, rfl, hf, hs, hm, hn⟩ hk8
      unfold wX7_teeth_b39 wX7_teeth_b70
      refine if_n (nI_nlt (a := 30) (b := 6 + j) (by omega) (by decide)) ?_
      rw [e1, e2]
      have hp : inT (6 + i) := ⟨by omega, by omega⟩
      have hq : inT (6 + j) := ⟨by omega, by omega⟩
      refine p_isBetter ho hu hp hq hf hs ?_
      rw [← nI_succ]
      by_cases c : kyt o u (6 + i) (6 + j) < kyt o u f s
      · rw [decide_eq_true c]
        refine if_n (by decide) (hk8 _ _ _ _ _ ⟨rfl, rfl, rfl, 6 + i, 6 + j, rfl, rfl, hp, hq, fun p q h1 h2 h3 => ?_, fun q h1 h2 => ?_⟩)
        · have := hm p q h1 h2 h3
          omega
        · by_cases cq : q = 6 + j
          · rw [cq]
            exact Nat.le_refl _
          · have := hn q h1 (by omega)
            omega
      · rw [decide_eq_false c]
        refine if_p rfl (hk8 _ _ _ _ _ ⟨rfl, rfl, rfl, f, s, rfl, rfl, hf, hs, hm, fun q h1 h2 => ?_⟩)
        by_cases cq : q = 6 + j
        · rw [cq]
          omega
        · exact hn q h1 (by omega)
    · rintro T' _ _ _ _ k8 ⟨rfl, rfl, rfl, f, s, rfl, rfl, hf, hs, hm, hn⟩
      unfold wX7_teeth_b39
      rw [← nI_succ]
      refine if_p (nI_lt (a := 30) (b := 6 + 25) (by decide) (by decide)) (hk9 _ _ _ _ ⟨rfl, rfl, f, s, rfl, rfl, hf, hs, fun p q h1 h2 h3 => ?_⟩)
      by_cases cp : p = 6 + i
      · rw [cp]
        exact hn q h3.1 (by have := h3.2; omega)
      · exact hm p q h1 (by omega) h3
  · rintro T _ _ _ k9 ⟨rfl, rfl, f, s, rfl, rfl, hf, hs, hm⟩
    unfold wX7_teeth_b28
    have fin := kk o u f s ho hu e1 e2 ⟨hf, hs, fun p q h1 h2 => hm p q h1.1 (by have := h1.2; omega) h2⟩
    refine if_p (nI_lt (a := 30) (b := 6 + 25) (by decide) (by decide)) ?_
    cases v with
    | false => exact if_p rfl fin
    | true => exact if_n (by decide) fin
theorem p_isNoRatio {Φ : Hp → Int32 → Prop} {x1 x2 : Int32} (h : Rep A E ls nl nc nd S D) (k1 : ¬ okR x1 x2 → ∀ S' D', Rep A E ls nl nc nd S' D' → Thr 1 D D' → Φ S' 1) (k0 : okR x1 x2 → ∀ S' D', Rep A E ls nl nc nd S' D' → Thr 0 D D' → Φ S' 0) : wX8_isNoRatio S (A 70) x1 x2 Φ := by
  have bad : ¬ okR x1 x2 → wX8_isNoRatio_b23 (A 70) x1 x2 Φ S (A 70) := fun q => by
    unfold wX8_isNoRatio_b23 wX8_isNoRatio_b28
    exact ⟨m_is h, t_isThrown true h rfl (fun e => absurd e (by decide)) (fun _ S1 D1 r1 t1 => ⟨rfl, k1 q S1 D1 r1 t1⟩)⟩
  unfold wX8_isNoRatio wX8_isNoRatio_b0
  refine t_isIn ?_
  by_cases c1 : (1 : Int32).toInt ≤ x1.toInt ∧ x1.toInt ≤ (9999 : Int32).toInt
  · rw [decide_eq_true c1]
    refine if_n (by decide) (t_isIn ?_)
    by_cases c2 : (1 : Int32).toInt ≤ x2.toInt ∧ x2.toInt ≤ (9999 : Int32).toInt
    · rw [decide_eq_true c2]
      refine fi_n (by decide) ?_
      unfold wX8_isNoRatio_b28
      exact ⟨m_is h, t_isThrown false h rfl (fun _ S1 D1 r1 t1 => ⟨rfl, k0 ⟨c1, c2⟩ S1 D1 r1 t1⟩) (fun e => absurd e (by decide))⟩
    · rw [decide_eq_false c2]
      exact fi_p rfl (bad (fun q => c2 q.2))
  · rw [decide_eq_false c1]
    exact if_p rfl (bad (fun q => c1 q.1))
theorem p_pairsC {Φ : Hp → Int32 → Prop} {Ψ : Hp → String → Prop} {x1 x2 : Int32} (kt : ¬ okR x1 x2 → Ψ S "java/lang/IllegalArgumentException") (kk : okR x1 x2 → Φ S (nI (prN x1 x2))) : wX7_pairs S (A 0) x1 x2 Φ Ψ := by
  unfold wX7_pairs wX7_pairs_b0
  refine p_checkRange (fun a1 a2 => p_checkRange (fun b1 b2 => ?_) (fun q => kt (fun w => q w.2))) (fun q => kt (fun w => q w.1))
  refine it3_ex (fun i T a b => T = S ∧ b = nI (6 + i) ∧ a = nI (sumN (fun a => cnt 25 (prF x1 x2 a)) i)) 25 ?_ ?_ ⟨rfl, rfl, rfl⟩
  · rintro i hi T _ _ k9 ⟨rfl, rfl, rfl⟩ hk9
    unfold wX7_pairs_b22
    refine if_n (nI_nlt (a := 30) (b := 6 + i) (by omega) (by decide)) ?_
    refine it4_ex (fun j T' a b c => T' = T ∧ b = nI (6 + i) ∧ c = nI (6 + j) ∧ a = nI (sumN (fun a => cnt 25 (prF x1 x2 a)) i + cnt j (prF x1 x2 i))) 25 ?_ ?_ ⟨rfl, rfl, rfl, rfl⟩
    · rintro j hj T' _ _ _ k8 ⟨rfl, rfl, rfl, rfl⟩ hk8
      unfold wX7_pairs_b33 wX7_pairs_b54
      refine if_n (nI_nlt (a := 30) (b := 6 + j) (by omega) (by decide)) ?_
      by_cases c : nI (6 + i) * x2 = nI (6 + j) * x1
      · refine fi_p c ?_
        rw [← nI_succ, ← nI_succ]
        refine hk8 _ _ _ _ ⟨rfl, rfl, rfl, ?_⟩
        rw [cnt_s, if_pos (show prF x1 x2 i j = true from decide_eq_true c)]
        rfl
      · refine fi_n c ?_
        rw [← nI_succ]
        refine hk8 _ _ _ _ ⟨rfl, rfl, rfl, ?_⟩
        rw [cnt_s, if_neg (show ¬ prF x1 x2 i j = true from fun q => c (of_decide_eq_true q))]
        rfl
    · rintro T' _ _ _ k8 ⟨rfl, rfl, rfl, rfl⟩
      unfold wX7_pairs_b33
      rw [← nI_succ]
      exact if_p (nI_lt (a := 30) (b := 6 + 25) (by decide) (by decide)) (hk9 _ _ _ ⟨rfl, rfl, rfl⟩)
  · rintro T _ _ k9 ⟨rfl, rfl, rfl⟩
    unfold wX7_pairs_b22
    exact if_p (nI_lt (a := 30) (b := 6 + 25) (by decide) (by decide)) (kk ⟨⟨a1, a2⟩, ⟨b1, b2⟩⟩)
theorem p_pairsM {Φ : Hp → Int32 → Prop} {x1 x2 : Int32} (h : Rep A E ls nl nc nd S D) (kt : ¬ okR x1 x2 → ∀ S' D', Rep A E ls nl nc nd S' D' → Thr 1 D D' → Φ S' 0) (kk : okR x1 x2 → ∀ S' D', Rep A E ls nl nc nd S' D' → Thr 0 D D' → Φ S' (nI (prN x1 x2))) : wX8_pairs S (A 70) x1 x2 Φ := by
  unfold wX8_pairs wX8_pairs_b0
  refine ⟨m_is h, p_isNoRatio h (fun q S1 D1 r1 t1 => if_n (by decide) (kt q S1 D1 r1 t1)) (fun ok S1 D1 r1 t1 => if_p rfl ?_)⟩
  refine it3_ex (fun i T a b => T = S1 ∧ b = nI (6 + i) ∧ a = nI (sumN (fun a => cnt 25 (prF x1 x2 a)) i)) 25 ?_ ?_ ⟨rfl, rfl, rfl⟩
  · rintro i hi T _ _ k9 ⟨rfl, rfl, rfl⟩ hk9
    unfold wX8_pairs_b17
    refine if_n (nI_nlt (a := 30) (b := 6 + i) (by omega) (by decide)) ?_
    refine it4_ex (fun j T' a b c => T' = T ∧ b = nI (6 + i) ∧ c = nI (6 + j) ∧ a = nI (sumN (fun a => cnt 25 (prF x1 x2 a)) i + cnt j (prF x1 x2 i))) 25 ?_ ?_ ⟨rfl, rfl, rfl, rfl⟩
    · rintro j hj T' _ _ _ k8 ⟨rfl, rfl, rfl, rfl⟩ hk8
      unfold wX8_pairs_b28 wX8_pairs_b52
      refine if_n (nI_nlt (a := 30) (b := 6 + j) (by omega) (by decide)) ?_
      by_cases c : nI (6 + i) * x2 = nI (6 + j) * x1
      · refine fi_p c ?_
        rw [← nI_succ, ← nI_succ]
        refine hk8 _ _ _ _ ⟨rfl, rfl, rfl, ?_⟩
        rw [cnt_s, if_pos (show prF x1 x2 i j = true from decide_eq_true c)]
        rfl
      · refine fi_n c ?_
        rw [← nI_succ, Int32.add_zero]
        refine hk8 _ _ _ _ ⟨rfl, rfl, rfl, ?_⟩
        rw [cnt_s, if_neg (show ¬ prF x1 x2 i j = true from fun q => c (of_decide_eq_true q))]
        rfl
    · rintro T' _ _ _ k8 ⟨rfl, rfl, rfl, rfl⟩
      unfold wX8_pairs_b28
      rw [← nI_succ]
      exact if_p (nI_lt (a := 30) (b := 6 + 25) (by decide) (by decide)) (hk9 _ _ _ ⟨rfl, rfl, rfl⟩)
  · rintro T _ _ k9 ⟨rfl, rfl, rfl⟩
    unfold wX8_pairs_b17
    exact if_p (nI_lt (a := 30) (b := 6 + 25) (by decide) (by decide)) (kk ok _ D1 r1 t1)
theorem p_teethM {Φ : Hp → Int32 → Prop} {x1 x2 : Int32} {v : Bool} (h : Rep A E ls nl nc nd S D) (kt : ¬ okR x1 x2 → ∀ S' D', Rep A E ls nl nc nd S' D' → Thr 1 D D' → Φ S' 0) (kkR : okR x1 x2 → ∀ o u f s, o ≤ 9999 → u ≤ 9999 → x1 = nI o → x2 = nI u → TMin o u f s → ∀ S' D', Rep A E ls nl nc nd S' D' → Thr 0 D D' → Φ S' (nI (if v then f else s))) : wX8_teeth S (A 70) x1 x2 (bI v) Φ := by
  unfold wX8_teeth wX8_teeth_b0
  refine ⟨m_is h, p_isNoRatio h (fun q S1 D1 r1 t1 => if_n (by decide) (kt q S1 D1 r1 t1)) (fun ok S1 D1 r1 t1 => if_p rfl ?_)⟩
  obtain ⟨o, u, e1, e2, ho, hu⟩ := okR_ex ok
  have kk := kkR ok
  -- what is seen: pairs before (sum, first)
  refine it4_ex (fun i T a b c => T = S1 ∧ c = nI (12 + i) ∧ ∃ f s, a = nI f ∧ b = nI s ∧ ((i = 0 ∧ f = 0 ∧ s = 0) ∨ (inT f ∧ inT s ∧ f + s < 12 + i)) ∧ ∀ p q, inT p → inT q → p + q < 12 + i → kyt o u f s ≤ kyt o u p q) 49 ?_ ?_ ⟨rfl, rfl, 0, 0, rfl, rfl, Or.inl ⟨rfl, rfl, rfl⟩, fun p q h1 h2 h3 => absurd h3 (by have := h1.1; have := h2.1; omega)⟩
  · rintro i hi T _ _ _ k9 ⟨rfl, rfl, f, s, rfl, rfl, hfs, hm⟩ hk9
    unfold wX8_teeth_b21
    refine if_n (nI_nlt (a := 60) (b := 12 + i) (by omega) (by decide)) ?_
    refine it5_ex (fun j T' a b c d => T' = T ∧ c = nI (12 + i) ∧ d = nI (6 + j) ∧ ∃ f s, a = nI f ∧ b = nI s ∧ ((i = 0 ∧ j = 0 ∧ f = 0 ∧ s = 0) ∨ (inT f ∧ inT s ∧ (f + s < 12 + i ∨ (f + s = 12 + i ∧ f < 6 + j)))) ∧ ∀ p q, inT p → inT q → (p + q < 12 + i ∨ (p + q = 12 + i ∧ p < 6 + j)) → kyt o u f s ≤ kyt o u p q) 25 ?_ ?_ ⟨rfl, rfl, rfl, f, s, rfl, rfl, ?_, fun p q h1 h2 h3 => ?_⟩
    · rintro j hj T' _ _ _ _ k8 ⟨rfl, rfl, rfl, f, s, rfl, rfl, hfs, hm⟩ hk8
      unfold wX8_teeth_b32 wX8_teeth_b115 wX8_teeth_b123
      refine if_n (nI_nlt (a := 30) (b := 6 + j) (by omega) (by decide)) (t_isIn ?_)
      have hp : inT (6 + j) := ⟨by omega, by omega⟩
      by_cases cin : 6 ≤ 12 + i - (6 + j) ∧ 12 + i - (6 + j) ≤ 30 ∧ 6 + j ≤ 12 + i
      · have hq : inT (12 + i - (6 + j)) := ⟨cin.1, cin.2.1⟩
        rw [nI_sub cin.2.2, decide_eq_true (by rw [nI_toInt (by omega)]; exact ⟨by show (6 : Int) ≤ _; omega, by show _ ≤ (30 : Int); omega⟩)]
        refine if_n (by decide) ?_
        have take : (∀ p q, inT p → inT q → (p + q < 12 + i ∨ (p + q = 12 + i ∧ p < 6 + j)) → kyt o u (6 + j) (12 + i - (6 + j)) ≤ kyt o u p q) → k8 T' (nI (6 + j)) (nI (12 + i - (6 + j))) (nI (12 + i)) (nI (6 + j) + 1) := fun z => by
          rw [← nI_succ]
          refine hk8 _ _ _ _ _ ⟨rfl, rfl, rfl, 6 + j, 12 + i - (6 + j), rfl, rfl, Or.inr ⟨hp, hq, Or.inr ⟨by omega, by omega⟩⟩, fun p q h1 h2 h3 => ?_⟩
          by_cases c9 : p + q = 12 + i ∧ p = 6 + j
          · have : q = 12 + i - (6 + j) := by omega
            rw [c9.2, this]
            exact Nat.le_refl _
          · exact z p q h1 h2 (by omega)
        rcases hfs with ⟨z1, z2, z3, z4⟩ | ⟨hf, hs, hlt⟩
        · refine if_p (by rw [z3]; rfl) (take (fun p q h1 h2 h3 => ?_))
          have := h1.1
          have := h2.1
          omega
        · have f1 := hf.1
          have f2 := hf.2
          have s1 := hs.1
          have s2 := hs.2
          have d1 : (if 0 < (i6 ((6 + j : Nat) : Int) * i6 (u : Int) - i6 ((12 + i - (6 + j) : Nat) : Int) * i6 (o : Int)) then (i6 ((6 + j : Nat) : Int) * i6 (u : Int) - i6 ((12 + i - (6 + j) : Nat) : Int) * i6 (o : Int)) else -(i6 ((6 + j : Nat) : Int) * i6 (u : Int) - i6 ((12 + i - (6 + j) : Nat) : Int) * i6 (o : Int))) = i6 ((dd o u (6 + j) (12 + i - (6 + j)) : Nat) : Int) := by
            rw [show i6 ((12 + i - (6 + j) : Nat) : Int) * i6 (o : Int) = i6 (o : Int) * i6 ((12 + i - (6 + j) : Nat) : Int) from Int64.mul_comm _ _]
            exact dd_i6 ho hu hp hq
          have d2 : (if 0 < (i6 (f : Int) * i6 (u : Int) - i6 (s : Int) * i6 (o : Int)) then (i6 (f : Int) * i6 (u : Int) - i6 (s : Int) * i6 (o : Int)) else -(i6 (f : Int) * i6 (u : Int) - i6 (s : Int) * i6 (o : Int))) = i6 ((dd o u f s : Nat) : Int) := by
            rw [show i6 (s : Int) * i6 (o : Int) = i6 (o : Int) * i6 (s : Int) from Int64.mul_comm _ _]
            exact dd_i6 ho hu hf hs
          obtain ⟨-, c2⟩ := dd_cmp ho hu hp hq hf hs
          refine if_n (fun q => by have := (nI_iff (b := 0) (by omega) (by decide)).mp q; omega) ?_
          rw [e1, e2, nI64 (n := 6 + j) (by omega), nI64 (n := u) (by omega), nI64 (n := 12 + i - (6 + j)) (by omega), nI64 (n := o) (by omega), nI64 (n := f) (by omega), nI64 (n := s) (by omega), d1, d2]
          by_cases cl : dd o u (6 + j) (12 + i - (6 + j)) * (lcN / (12 + i - (6 + j))) < dd o u f s * (lcN / s)
          · refine if_n (fun z => c2.mp z cl) (take (fun p q h1 h2 h3 => ?_))
            have h9 := hm p q h1 h2 h3
            have h8 : kyt o u (6 + j) (12 + i - (6 + j)) < kyt o u f s := by
              unfold kyt
              omega
            omega
          · refine if_p (c2.mpr cl) ?_
            rw [← nI_succ]
            refine hk8 _ _ _ _ _ ⟨rfl, rfl, rfl, f, s, rfl, rfl, Or.inr ⟨hf, hs, by omega⟩, fun p q h1 h2 h3 => ?_⟩
            by_cases c9 : p + q = 12 + i ∧ p = 6 + j
            · have : q = 12 + i - (6 + j) := by omega
              rw [c9.2, this]
              unfold kyt
              omega
            · exact hm p q h1 h2 (by omega)
      · have bad : decide ((6 : Int32).toInt ≤ (nI (12 + i) - nI (6 + j)).toInt ∧ (nI (12 + i) - nI (6 + j)).toInt ≤ (30 : Int32).toInt) = false := by
          refine decide_eq_false (fun z => cin ?_)
          have e9 : (nI (12 + i) - nI (6 + j)).toInt = ((12 + i : Nat) : Int) - ((6 + j : Nat) : Int) := by
            rw [Int32.toInt_sub, nI_toInt (by omega), nI_toInt (by omega), Int.bmod_eq_of_le (by omega) (by omega)]
          rw [e9] at z
          have z1 : (6 : Int) ≤ ((12 + i : Nat) : Int) - ((6 + j : Nat) : Int) := z.1
          have z2 : ((12 + i : Nat) : Int) - ((6 + j : Nat) : Int) ≤ 30 := z.2
          omega
        rw [bad]
        refine if_p rfl ?_
        rw [← nI_succ]
        refine hk8 _ _ _ _ _ ⟨rfl, rfl, rfl, f, s, rfl, rfl, ?_, fun p q h1 h2 h3 => hm p q h1 h2 ?_⟩
        · rcases hfs with z | ⟨hf, hs, hlt⟩
          · exfalso
            exact cin (by omega)
          · exact Or.inr ⟨hf, hs, by omega⟩
        · have := h1.1
          have := h1.2
          have := h2.1
          have := h2.2
          by_cases c9 : p + q = 12 + i ∧ p = 6 + j
          · exfalso
            exact cin (by omega)
          · omega
    · rintro T' _ _ _ _ k8 ⟨rfl, rfl, rfl, f, s, rfl, rfl, hfs, hm⟩
      unfold wX8_teeth_b32
      rw [← nI_succ]
      refine if_p (nI_lt (a := 30) (b := 6 + 25) (by decide) (by decide)) (hk9 _ _ _ _ ⟨rfl, rfl, f, s, rfl, rfl, ?_, fun p q h1 h2 h3 => hm p q h1 h2 (by have := h1.2; omega)⟩)
      rcases hfs with z | ⟨hf, hs, hlt⟩
      · exact absurd z.2.1 (by decide)
      · exact Or.inr ⟨hf, hs, by omega⟩
    · rcases hfs with z | ⟨hf, hs, hlt⟩
      · exact Or.inl ⟨z.1, rfl, z.2.1, z.2.2⟩
      · exact Or.inr ⟨hf, hs, Or.inl hlt⟩
    · have := h1.1
      exact hm p q h1 h2 (by omega)
  · rintro T _ _ _ k9 ⟨rfl, rfl, f, s, rfl, rfl, hfs, hm⟩
    unfold wX8_teeth_b21
    rcases hfs with z | ⟨hf, hs, hlt⟩
    · exact absurd z.1 (by decide)
    · have fin := kk o u f s ho hu e1 e2 ⟨hf, hs, fun p q h1 h2 => hm p q h1 h2 (by have := h1.2; have := h2.2; omega)⟩ T D1 r1 t1
      refine if_p (nI_lt (a := 60) (b := 12 + 49) (by decide) (by decide)) ?_
      cases v with
      | false => exact if_p rfl fin
      | true => exact if_n (by decide) fin
end TE9
