/-! BARS, LIMITS, ANGLES -/
def okB (x1 x2 x3 x4 : Int32) : Prop := (1 ≤ x1.toInt ∧ x1.toInt ≤ 999) ∧ (1 ≤ x2.toInt ∧ x2.toInt ≤ 999) ∧ (1 ≤ x3.toInt ∧ x3.toInt ≤ 999) ∧ (1 ≤ x4.toInt ∧ x4.toInt ≤ 999)
def okN (a b c d : Nat) : Prop := (1 ≤ a ∧ a ≤ 999) ∧ (1 ≤ b ∧ b ≤ 999) ∧ (1 ≤ c ∧ c ≤ 999) ∧ (1 ≤ d ∧ d ≤ 999)
theorem r999 {x : Int32} (h : 1 ≤ x.toInt ∧ x.toInt ≤ 999) : ∃ a, x = nI a ∧ 1 ≤ a ∧ a ≤ 999 := by
  obtain ⟨a, ha, e⟩ := inR_ex (x := x) (n := 1000) ⟨by omega, by omega⟩ (by decide)
  refine ⟨a, e, ?_, by omega⟩
  rw [e, nI_toInt (by omega)] at h
  omega
theorem okB_ex {x1 x2 x3 x4 : Int32} (h : okB x1 x2 x3 x4) : ∃ a b c d, okN a b c d ∧ x1 = nI a ∧ x2 = nI b ∧ x3 = nI c ∧ x4 = nI d := by
  obtain ⟨a, e1, a1, a2⟩ := r999 h.1
  obtain ⟨b, e2, b1, b2⟩ := r999 h.2.1
  obtain ⟨c, e3, c1, c2⟩ := r999 h.2.2.1
  obtain ⟨d, e4, d1, d2⟩ := r999 h.2.2.2
  exact ⟨a, b, c, d, ⟨⟨a1, a2⟩, ⟨b1, b2⟩, ⟨c1, c2⟩, ⟨d1, d2⟩⟩, e1, e2, e3, e4⟩
def bMax (a b c d : Nat) : Nat := max (max a b) (max c d)
def bMin (a b c d : Nat) : Nat := min (min a b) (min c d)
def brl (a b c d : Nat) : Nat := if a + b + c + d ≤ 2 * bMax a b c d then 120 else if 2 * (bMax a b c d + bMin a b c d) = a + b + c + d then 101 else if a + b + c + d < 2 * (bMax a b c d + bMin a b c d) then 116 else if a = bMin a b c d then 99 else if c = bMin a b c d then 114 else if d = bMin a b c d then 100 else 111
theorem brl_lt (a b c d : Nat) : brl a b c d < 200 := by
  unfold brl
  repeat' split
  all_goals decide
theorem nc_small : ∀ n, n < 200 → narrow .char (.int (nI n)) = .int (nI n) := by decide +kernel
theorem nI_min {a b : Nat} (ha : a < 2 ^ 31) (hb : b < 2 ^ 31) : (if nI b < nI a then nI b else nI a) = nI (min a b) := by
  by_cases c : b < a
  · rw [if_pos (nI_lt c ha), Nat.min_eq_right (by omega)]
  · rw [if_neg (nI_nlt (by omega) hb), Nat.min_eq_left (by omega)]
theorem mx4 {a b c d : Nat} (h : okN a b c d) : (if (if nI a < nI b then nI b else nI a) < (if nI c < nI d then nI d else nI c) then (if nI c < nI d then nI d else nI c) else (if nI a < nI b then nI b else nI a)) = nI (bMax a b c d) := by
  obtain ⟨⟨a1, a2⟩, ⟨b1, b2⟩, ⟨c1, c2⟩, ⟨d1, d2⟩⟩ := h
  rw [nI_max (a := a) (b := b) (by omega) (by omega), nI_max (a := c) (b := d) (by omega) (by omega), nI_max (by omega) (by omega)]
  rfl
theorem mn4 {a b c d : Nat} (h : okN a b c d) : (if (if nI d < nI c then nI d else nI c) < (if nI b < nI a then nI b else nI a) then (if nI d < nI c then nI d else nI c) else (if nI b < nI a then nI b else nI a)) = nI (bMin a b c d) := by
  obtain ⟨⟨a1, a2⟩, ⟨b1, b2⟩, ⟨c1, c2⟩, ⟨d1, d2⟩⟩ := h
  rw [nI_min (a := a) (b := b) (by omega) (by omega), nI_min (a := c) (b := d) (by omega) (by omega), nI_min (by omega) (by omega)]
  rfl
theorem bM_b {a b c d : Nat} (h : okN a b c d) : bMax a b c d ≤ 999 ∧ bMin a b c d ≤ 999 ∧ 1 ≤ bMin a b c d ∧ bMax a b c d ≤ a + b + c + d ∧ bMax a b c d + bMin a b c d ≤ a + b + c + d := by
  obtain ⟨⟨a1, a2⟩, ⟨b1, b2⟩, ⟨c1, c2⟩, ⟨d1, d2⟩⟩ := h
  unfold bMax bMin
  omega
def opp (v : Bool) (x y : Nat) : Nat := if v then x + y else ((x : Int) - (y : Int)).natAbs
def tri (o t p : Nat) : Bool := decide (0 < p ∧ p < o + t ∧ ((o : Int) - (t : Int)).natAbs < p)
def cosq (o t p : Nat) : Rat := Rat.divInt ((o : Int) * o + (t : Int) * t - (p : Int) * p) (2 * (o : Int) * t)
theorem cos_rg {o t p : Nat} (ho : 1 ≤ o ∧ o ≤ 999) (ht : 1 ≤ t ∧ t ≤ 999) (hp : p ≤ 2000) : Rg ((o : Int) * o + (t : Int) * t - (p : Int) * p) ∧ Rg (2 * (o : Int) * t) ∧ 0 < 2 * (o : Int) * t := by
  have q1 : ((o : Int) * o).natAbs ≤ 2000 * 2000 := sq_le (by omega) (by omega)
  have q2 : ((t : Int) * t).natAbs ≤ 2000 * 2000 := sq_le (by omega) (by omega)
  have q3 : ((p : Int) * p).natAbs ≤ 2000 * 2000 := sq_le (by omega) (by omega)
  have q4 : (2 * (o : Int) * t).natAbs ≤ 2000 * 2000 := sq_le (by omega) (by omega)
  refine ⟨by unfold Rg; omega, by unfold Rg; omega, Int.mul_pos (by omega) (by omega)⟩
section BA9
variable {A E : Nat → Nat} {ls : Nat → List Nat} {nl nc nd : Nat} {S : Hp} {D : Dt}
theorem p_barsOf {Φ : Hp → Option Nat → Prop} {Ψ : Hp → String → Prop} {x1 x2 x3 x4 : Int32} (h : Rep A E ls nl nc nd S D) (kt : ¬ okB x1 x2 x3 x4 → Ψ S "java/lang/IllegalArgumentException")
    (k : ∀ a b c d, okN a b c d → x1 = nI a → x2 = nI b → x3 = nI c → x4 = nI d → ∀ S' q, Rep A E ls nl nc nd S' D → isA S' q 0 → S'.FI 0 q = nI a → S'.FI 1 q = nI b → S'.FI 2 q = nI c → S'.FI 3 q = nI d → Φ S' (some q)) : wX7_barsOf S x1 x2 x3 x4 Φ Ψ := by
  unfold wX7_barsOf wX7_barsOf_b0
  refine p_checkRange (fun a1 a2 => p_checkRange (fun b1 b2 => p_checkRange (fun c1 c2 => p_checkRange (fun d1 d2 => ?_) (fun q => kt (fun w => q w.2.2.2))) (fun q => kt (fun w => q w.2.2.1))) (fun q => kt (fun w => q w.2.1))) (fun q => kt (fun w => q w.1))
  obtain ⟨a, b, c, d, hN, e1, e2, e3, e4⟩ := okB_ex (x1 := x1) (x2 := x2) (x3 := x3) (x4 := x4) ⟨⟨a1, a2⟩, ⟨b1, b2⟩, ⟨c1, c2⟩, ⟨d1, d2⟩⟩
  intro q S6 hq e6
  have r6 : Rep A E ls nl nc nd S6 D := by
    rw [e6]
    exact rep_new h 0 0 hq
  have off := off_new h hq
  have is6 : isA S6 q 0 := by
    rw [e6]
    exact new_isA
  unfold wX0_init wX0_init_b0
  refine ⟨is6, fun S2 e2' S3 e3' S4 e4' S5 e5' => ?_⟩
  have r2 : Rep A E ls nl nc nd S2 D := by
    rw [e2']
    exact off_FI r6 _ off (by decide)
  have r3 : Rep A E ls nl nc nd S3 D := by
    rw [e3']
    exact off_FI r2 _ off (by decide)
  have r4 : Rep A E ls nl nc nd S4 D := by
    rw [e4']
    exact off_FI r3 _ off (by decide)
  have r5 : Rep A E ls nl nc nd S5 D := by
    rw [e5']
    exact off_FI r4 _ off (by decide)
  refine k a b c d hN e1 e2 e3 e4 S5 q r5 ?_ ?_ ?_ ?_ ?_
  · rw [e5', e4', e3', e2']
    exact is6
  · rw [e5', hpFI_n (by omega), e4', hpFI_n (by omega), e3', hpFI_n (by omega), e2', hpFI_s, e1]
  · rw [e5', hpFI_n (by omega), e4', hpFI_n (by omega), e3', hpFI_s, e2]
  · rw [e5', hpFI_n (by omega), e4', hpFI_s, e3]
  · rw [e5', hpFI_s, e4]
theorem p_barsC {Φ : Hp → Int32 → Prop} {Ψ : Hp → String → Prop} {x1 x2 x3 x4 : Int32} (h : Rep A E ls nl nc nd S D) (kt : ¬ okB x1 x2 x3 x4 → Ψ S "java/lang/IllegalArgumentException")
    (kk : ∀ a b c d, okN a b c d → x1 = nI a → x2 = nI b → x3 = nI c → x4 = nI d → ∀ S', Rep A E ls nl nc nd S' D → Φ S' (nI (brl a b c d))) : wX7_bars S (A 0) x1 x2 x3 x4 Φ Ψ := by
  unfold wX7_bars wX7_bars_b0
  refine p_barsOf h kt (fun a b c d hN e1 e2 e3 e4 S' q r' iq v0 v1 v2 v3 => ⟨q, rfl, iq, ?_⟩)
  have kk1 := kk a b c d hN e1 e2 e3 e4 S' r'
  have fin : Φ S' (nI (brl a b c d)) := kk1
  have ok : narrow .char (.int (nI (brl a b c d))) = .int (nI (brl a b c d)) := nc_small _ (brl_lt a b c d)
  obtain ⟨m1, m2, m3, m4, m5⟩ := bM_b hN
  have go : ∀ n, n = brl a b c d → (narrow .char (.int (nI n)) = .int (nI n) ∧ Φ S' (nI n)) := fun n e => by
    rw [e]
    exact ⟨ok, fin⟩
  unfold wX0_letter wX0_letter_b0
  rw [v0, v1, v2, v3, mx4 hN, mn4 hN, nI_add, nI_add, nI_add, nI_add, nI_sub (by omega), nI_sub (by omega)]
  obtain ⟨⟨a1, a2⟩, ⟨b1, b2⟩, ⟨c1, c2⟩, ⟨d1, d2⟩⟩ := hN
  unfold brl at go
  generalize bMax a b c d = L at *
  generalize bMin a b c d = s at *
  refine ⟨iq, ?_⟩
  by_cases t1 : a + b + c + d ≤ 2 * L
  · rw [if_pos t1] at go
    exact if_n (nI_nlt (by omega) (by omega)) (go 120 rfl)
  · rw [if_neg t1] at go
    refine if_p (nI_lt (by omega) (by omega)) ?_
    by_cases t2 : 2 * (L + s) = a + b + c + d
    · rw [if_pos t2] at go
      exact if_p ((nI_iff (by omega) (by omega)).mpr (by omega)) (go 101 rfl)
    · rw [if_neg t2] at go
      refine if_n (fun q => by have := (nI_iff (by omega) (by omega)).mp q; omega) ?_
      by_cases t3 : a + b + c + d < 2 * (L + s)
      · rw [if_pos t3] at go
        exact if_p (nI_le (by omega) (by omega)) (go 116 rfl)
      · rw [if_neg t3] at go
        refine if_n (nI_ge (by omega) (by omega)) ?_
        unfold wX0_letterOf wX0_letterOf_b0
        rw [v0, v2, v3]
        refine ⟨iq, ?_⟩
        have dup : ∀ n, (narrow .char (.int (nI n)) = .int (nI n) ∧ Φ S' (nI n)) → (narrow .char (.int (nI n)) = .int (nI n) ∧ (narrow .char (.int (nI n)) = .int (nI n) ∧ Φ S' (nI n))) := fun n x => ⟨x.1, x⟩
        by_cases t4 : a = s
        · rw [if_pos t4] at go
          exact fi_p (by rw [t4]) (dup 99 (go 99 rfl))
        · rw [if_neg t4] at go
          refine fi_n (fun q => t4 ((nI_iff (by omega) (by omega)).mp q)) ?_
          by_cases t5 : c = s
          · rw [if_pos t5] at go
            exact fi_p (by rw [t5]) (dup 114 (go 114 rfl))
          · rw [if_neg t5] at go
            refine fi_n (fun q => t5 ((nI_iff (by omega) (by omega)).mp q)) ?_
            by_cases t6 : d = s
            · rw [if_pos t6] at go
              exact fi_p (by rw [t6]) (dup 100 (go 100 rfl))
            · rw [if_neg t6] at go
              exact fi_n (fun q => t6 ((nI_iff (by omega) (by omega)).mp q)) (dup 111 (go 111 rfl))
end BA9
