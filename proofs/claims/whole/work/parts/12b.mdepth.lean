/-! THE REFERENCE: how deep a shaft is, and what lies behind an input -/
def dpF (G : Nat → Nat → Nat) (nl : Nat) : Nat → Nat → Nat
  | 0, _ => 0
  | n + 1, s => match drv G nl s with
    | none => 0
    | some k => 1 + (if G k 0 = 112 then max (dpF G nl n (G k 1)) (dpF G nl n (G k 2)) else dpF G nl n (G k 1))
def bhF (G : Nat → Nat → Nat) (nl inp : Nat) : Nat → Nat → Bool
  | 0, s => decide (s = inp)
  | n + 1, s => decide (s = inp) || match drv G nl s with
    | none => false
    | some k => bhF G nl inp n (G k 1) || (decide (G k 0 = 112) && bhF G nl inp n (G k 2))
theorem dpF_succ (G : Nat → Nat → Nat) (nl n s : Nat) : dpF G nl (n + 1) s = (match drv G nl s with | none => 0 | some k => 1 + (if G k 0 = 112 then max (dpF G nl n (G k 1)) (dpF G nl n (G k 2)) else dpF G nl n (G k 1))) := rfl
theorem bhF_succ (G : Nat → Nat → Nat) (nl inp n s : Nat) : bhF G nl inp (n + 1) s = (decide (s = inp) || match drv G nl s with | none => false | some k => bhF G nl inp n (G k 1) || (decide (G k 0 = 112) && bhF G nl inp n (G k 2))) := rfl
theorem lev0 {G : Nat → Nat → Nat} {nl s : Nat} {lv : Nat → Nat} (hL : ∀ k s, k < nl → src G k s → lv s < lv (G k 3)) (hs : lv s = 0) : drv G nl s = none := by
  cases h : drv G nl s with
  | none => rfl
  | some k =>
    obtain ⟨hk, e⟩ := drv_some h
    have := hL k (G k 1) hk (Or.inl rfl)
    rw [e] at this
    omega
theorem dpF_step {G : Nat → Nat → Nat} {nl : Nat} {lv : Nat → Nat} (hL : ∀ k s, k < nl → src G k s → lv s < lv (G k 3)) : ∀ n m s, lv s ≤ n → n ≤ m → dpF G nl n s = dpF G nl m s := by
  intro n
  induction n with
  | zero =>
    intro m s hs hm
    cases m with
    | zero => rfl
    | succ m =>
      rw [dpF_succ, lev0 hL (by omega)]
      rfl
  | succ n ih =>
    intro m s hs hm
    obtain ⟨m, rfl⟩ : ∃ m', m = m' + 1 := ⟨m - 1, by omega⟩
    rw [dpF_succ, dpF_succ]
    cases h : drv G nl s with
    | none => rfl
    | some k =>
      obtain ⟨hk, e⟩ := drv_some h
      have h1 := hL k (G k 1) hk (Or.inl rfl)
      rw [e] at h1
      have e1 := ih m (G k 1) (by omega) (by omega)
      show 1 + (if G k 0 = 112 then max (dpF G nl n (G k 1)) (dpF G nl n (G k 2)) else dpF G nl n (G k 1)) = 1 + (if G k 0 = 112 then max (dpF G nl m (G k 1)) (dpF G nl m (G k 2)) else dpF G nl m (G k 1))
      rw [e1]
      by_cases hp : G k 0 = 112
      · have h2 := hL k (G k 2) hk (Or.inr ⟨hp, rfl⟩)
        rw [e] at h2
        rw [ih m (G k 2) (by omega) (by omega)]
      · rw [if_neg hp, if_neg hp]
theorem bhF_step {G : Nat → Nat → Nat} {nl inp : Nat} {lv : Nat → Nat} (hL : ∀ k s, k < nl → src G k s → lv s < lv (G k 3)) : ∀ n m s, lv s ≤ n → n ≤ m → bhF G nl inp n s = bhF G nl inp m s := by
  intro n
  induction n with
  | zero =>
    intro m s hs hm
    cases m with
    | zero => rfl
    | succ m =>
      rw [bhF_succ, lev0 hL (by omega)]
      exact (Bool.or_false _).symm
  | succ n ih =>
    intro m s hs hm
    obtain ⟨m, rfl⟩ : ∃ m', m = m' + 1 := ⟨m - 1, by omega⟩
    rw [bhF_succ, bhF_succ]
    cases h : drv G nl s with
    | none => rfl
    | some k =>
      obtain ⟨hk, e⟩ := drv_some h
      have h1 := hL k (G k 1) hk (Or.inl rfl)
      rw [e] at h1
      have e1 := ih m (G k 1) (by omega) (by omega)
      show (decide (s = inp) || (bhF G nl inp n (G k 1) || (decide (G k 0 = 112) && bhF G nl inp n (G k 2)))) = (decide (s = inp) || (bhF G nl inp m (G k 1) || (decide (G k 0 = 112) && bhF G nl inp m (G k 2))))
      rw [e1]
      by_cases hp : G k 0 = 112
      · have h2 := hL k (G k 2) hk (Or.inr ⟨hp, rfl⟩)
        rw [e] at h2
        rw [ih m (G k 2) (by omega) (by omega)]
      · rw [decide_eq_false hp, Bool.false_and, Bool.false_and]
/-- the depth, with room for every graph of ours -/
def dp (G : Nat → Nat → Nat) (nl s : Nat) : Nat := dpF G nl 20 s
def bh (G : Nat → Nat → Nat) (nl inp s : Nat) : Bool := bhF G nl inp 20 s
theorem dp_link {ns nl : Nat} {G : Nat → Nat → Nat} {lv : Nat → Nat} (hG : GrOK ns nl G) (hL : ∀ k s, k < nl → src G k s → lv s < lv (G k 3)) (hb : ∀ s, lv s ≤ 20) {k : Nat} (hk : k < nl) : dp G nl (G k 3) = 1 + (if G k 0 = 112 then max (dp G nl (G k 1)) (dp G nl (G k 2)) else dp G nl (G k 1)) := by
  unfold dp
  rw [dpF_step hL 20 21 (G k 3) (hb _) (by omega), dpF_succ, drv_of hG hk]
theorem dp_none {G : Nat → Nat → Nat} {nl s : Nat} (h : drv G nl s = none) : dp G nl s = 0 := by
  unfold dp
  rw [dpF_succ, h]
theorem dp_le {G : Nat → Nat → Nat} {nl : Nat} {lv : Nat → Nat} (hL : ∀ k s, k < nl → src G k s → lv s < lv (G k 3)) : ∀ n s, lv s ≤ n → dpF G nl n s ≤ lv s := by
  intro n
  induction n with
  | zero => intro s _; exact Nat.zero_le _
  | succ n ih =>
    intro s hs
    rw [dpF_succ]
    cases h : drv G nl s with
    | none => exact Nat.zero_le _
    | some k =>
      obtain ⟨hk, e⟩ := drv_some h
      have h1 := hL k (G k 1) hk (Or.inl rfl)
      rw [e] at h1
      have i1 := ih (G k 1) (by omega)
      show 1 + (if G k 0 = 112 then max (dpF G nl n (G k 1)) (dpF G nl n (G k 2)) else dpF G nl n (G k 1)) ≤ lv s
      by_cases hp : G k 0 = 112
      · have h2 := hL k (G k 2) hk (Or.inr ⟨hp, rfl⟩)
        rw [e] at h2
        have i2 := ih (G k 2) (by omega)
        rw [if_pos hp]
        omega
      · rw [if_neg hp]
        omega
/-- the depth is a level itself -/
theorem dp_lev {ns nl : Nat} {G : Nat → Nat → Nat} {lv : Nat → Nat} (hG : GrOK ns nl G) (hL : Lev nl G lv) : Lev nl G (dp G nl) := by
  refine ⟨fun k s hk hs => ?_, fun s => ?_⟩
  · rw [dp_link hG hL.1 (fun s => by have := hL.2 s; omega) hk]
    rcases hs with rfl | ⟨hp, rfl⟩
    · split <;> omega
    · rw [if_pos hp]
      omega
  · unfold dp
    have h3 := hL.2 s
    rw [← dpF_step hL.1 3 20 s h3 (by omega)]
    exact Nat.le_trans (dp_le hL.1 3 s h3) h3
theorem bh_link {ns nl inp : Nat} {G : Nat → Nat → Nat} {lv : Nat → Nat} (hG : GrOK ns nl G) (hL : ∀ k s, k < nl → src G k s → lv s < lv (G k 3)) (hb : ∀ s, lv s ≤ 20) {k : Nat} (hk : k < nl) : bh G nl inp (G k 3) = (decide (G k 3 = inp) || (bh G nl inp (G k 1) || (decide (G k 0 = 112) && bh G nl inp (G k 2)))) := by
  unfold bh
  rw [bhF_step hL 20 21 (G k 3) (hb _) (by omega), bhF_succ, drv_of hG hk]
theorem bh_none {G : Nat → Nat → Nat} {nl inp s : Nat} (h : drv G nl s = none) : bh G nl inp s = decide (s = inp) := by
  unfold bh
  rw [bhF_succ, h]
  exact Bool.or_false _
/-- what doesn't lie behind the input stands -/
theorem bh_tn {ns nl : Nat} {G : Nat → Nat → Nat} {lv : Nat → Nat} (hG : GrOK ns nl G) (hL : Lev nl G lv) {act : Nat → Bool} {P : Nat → Rat} {mk : Nat → Int} {inp : Nat} {wy : Int} {tn : Nat → Rat} {mk' : Nat → Int}
    (h : StepEq G nl act P mk inp wy tn mk') (hR : RI G nl act P mk) : ∀ s, bh G nl inp s = false → tn s = 0 ∧ ∀ k, k < nl → G k 3 = s → mk' k = mk k := by
  have main : ∀ n s, lv s ≤ n → bh G nl inp s = false → tn s = 0 ∧ ∀ k, k < nl → G k 3 = s → mk' k = mk k := by
    intro n
    induction n with
    | zero =>
      intro s hs hb
      have hd := lev0 hL.1 (show lv s = 0 by omega)
      have hd' := drv_none.mp hd
      rw [bh_none hd, decide_eq_false_iff_not] at hb
      exact ⟨h.2.1 s hb (fun k hk _ => hd' k hk), fun k hk e => absurd e (hd' k hk)⟩
    | succ n ih =>
      intro s hs hb
      cases hd : drv G nl s with
      | none =>
        have hd' := drv_none.mp hd
        rw [bh_none hd, decide_eq_false_iff_not] at hb
        exact ⟨h.2.1 s hb (fun k hk _ => hd' k hk), fun k hk e => absurd e (hd' k hk)⟩
      | some k =>
        obtain ⟨hk, rfl⟩ := drv_some hd
        rw [bh_link hG hL.1 (fun s => by have := hL.2 s; omega) hk] at hb
        simp only [Bool.or_eq_false_iff, decide_eq_false_iff_not, Bool.and_eq_false_iff] at hb
        obtain ⟨b1, b2, b3⟩ := hb
        have l1 := hL.1 k (G k 1) hk (Or.inl rfl)
        have t1 := (ih (G k 1) (by omega) b2).1
        have t2 : G k 0 = 112 → tn (G k 2) = 0 := fun hp => by
          have l2 := hL.1 k (G k 2) hk (Or.inr ⟨hp, rfl⟩)
          exact (ih (G k 2) (by omega) (b3.resolve_left (fun q => q hp))).1
        have uq : ∀ k', k' < nl → G k' 3 = G k 3 → k' = k := fun k' hk' e => hG.2.2.2 k' k hk' hk e
        by_cases ha : act k = true
        · obtain ⟨s1, s2, s3⟩ := h.2.2.1 k hk ha
          obtain ⟨z1, z2⟩ := ctr_zero (tn := tn) (P := P) (m := mk k) (hG.2.2.1 k hk).1 t1 t2 (hR k hk ha)
          refine ⟨s2.trans z1, fun k' hk' e => ?_⟩
          rw [uq k' hk' e, s3, z2]
        · refine ⟨h.2.1 _ b1 (fun k' hk' ha' e => ?_), fun k' hk' e => ?_⟩
          · rw [uq k' hk' e] at ha'
            exact ha ha'
          · rw [uq k' hk' e]
            exact h.2.2.2 k (fun q => ha q.2)
  exact fun s => main 3 s (hL.2 s)
section DB9
variable {A E : Nat → Nat} {ls : Nat → List Nat} {nl nc nd : Nat} {S : Hp} {D : Dt} {G : Nat → Nat → Nat}
/-- the drivers, in an array -/
def DrA (G : Nat → Nat → Nat) (nl ns r : Nat) (D : Dt) : Prop := ∀ s, s < ns → D.AI r s = match drv G nl s with | none => -1 | some k => nI k
theorem nI_max {a b : Nat} (ha : a < 2 ^ 31) (hb : b < 2 ^ 31) : (if nI a < nI b then nI b else nI a) = nI (max a b) := by
  by_cases c : a < b
  · rw [if_pos (nI_lt c hb), Nat.max_eq_right (by omega)]
  · rw [if_neg (nI_nlt (by omega) ha), Nat.max_eq_left (by omega)]
theorem nI_nm {i : Nat} (hi : i < 2 ^ 31) : ¬ nI i = -1 := fun q => by
  have := congrArg Int32.toInt q
  rw [nI_toInt hi] at this
  have e2 : (-1 : Int32).toInt = -1 := rfl
  omega
theorem p_depthOf {ns nlr : Nat} (hG : GrOK ns nl G) {lv : Nat → Nat} (hL : ∀ k s, k < nl → src G k s → lv s < lv (G k 3)) (hM : LkM G nl D) (hdr : DrA G nl ns 79 D) : ∀ (n s : Nat) (S : Hp) (Φ : Hp → Int32 → Prop), n ≤ 1000 → Rep A E ls nlr nc nd S D → s < ns → lv s ≤ n → Φ S (nI (dpF G nl n s)) → wX8_depthOf (n + 1) S (A 70) (nI s) Φ := by
  obtain ⟨hns, hnl, hg, -⟩ := hG
  intro n
  induction n with
  | zero =>
    intro s S Φ hn h hs hlv hk
    have a79 := m_arr h 519 79 21 14
    have v79 : S.AI (A 79) (nI s).toNatClampNeg = -1 := rd_I h (al_s (by decide)) (by omega) (by rw [hdr s hs, lev0 hL (by omega)])
    show wX8_depthOf_b0 _ _ _ _ _
    unfold wX8_depthOf_b0
    refine ⟨m_is h, A 79, a79.1, a79.2.1, by rw [a79.2.2]; exact in_nI (by omega) (by decide), ?_⟩
    rw [v79]
    exact fi_p rfl hk
  | succ n ih =>
    intro s S Φ hn h hs hlv hk
    have a79 := m_arr h 519 79 21 14
    show wX8_depthOf_b0 _ _ _ _ _
    unfold wX8_depthOf_b0
    refine ⟨m_is h, A 79, a79.1, a79.2.1, by rw [a79.2.2]; exact in_nI (by omega) (by decide), ?_⟩
    rw [dpF_succ] at hk
    have hd := hdr s hs
    cases hq : drv G nl s with
    | none =>
      rw [hq] at hd hk
      have v79 : S.AI (A 79) (nI s).toNatClampNeg = -1 := rd_I h (al_s (by decide)) (by omega) hd
      rw [v79]
      exact fi_p rfl hk
    | some k =>
      rw [hq] at hd hk
      obtain ⟨hkl, e⟩ := drv_some hq
      obtain ⟨hkk, hf, hs2, ht⟩ := hg k hkl
      obtain ⟨g1, g2, g3, g4, g5, g6⟩ := hM k hkl
      have l1 := hL k (G k 1) hkl (Or.inl rfl)
      rw [e] at l1
      have v79 : S.AI (A 79) (nI s).toNatClampNeg = nI k := rd_I h (al_s (by decide)) (by omega) hd
      have a82 := m_arr h 522 82 21 16
      have a83 := m_arr h 523 83 21 16
      have v82 : S.AI (A 82) (nI k).toNatClampNeg = nI (G k 1) := rd_I h (al_s (by decide)) (by omega) g2
      have v83 : S.AI (A 83) (nI k).toNatClampNeg = sec G k := rd_I h (al_s (by decide)) (by omega) g3
      have k16 : ∀ n, n = 16 → vp_in (nI k) n := fun n e => by
        rw [e]
        exact in_nI (by omega) (by decide)
      have nm : ∀ i, i < 14 → ¬ nI i = -1 := fun i hi q => by
        have := congrArg Int32.toInt q
        rw [nI_toInt (by omega)] at this
        have e2 : (-1 : Int32).toInt = -1 := rfl
        omega
      rw [v79]
      refine fi_n (nm k (by omega)) ⟨A 82, a82.1, a82.2.1, k16 _ a82.2.2, ?_⟩
      rw [v82]
      refine ih (G k 1) S _ (by omega) h hf (by omega) ⟨m_is h, A 83, a83.1, a83.2.1, k16 _ a83.2.2, ?_⟩
      rw [v83]
      unfold sec
      have add1 : ∀ x : Nat, (1 : Int32) + nI x = nI (1 + x) := fun x => (Int32.ofNat_add 1 x).symm
      by_cases hp : G k 0 = 112
      · have l2 := hL k (G k 2) hkl (Or.inr ⟨hp, rfl⟩)
        rw [e] at l2
        rw [if_pos hp]
        refine fi_n (nm _ (by have := hs2 hp; omega)) ⟨A 83, a83.1, a83.2.1, k16 _ a83.2.2, ?_⟩
        have hsec : sec G k = nI (G k 2) := if_pos hp
        rw [v83, hsec]
        refine ih (G k 2) S _ (by omega) h (hs2 hp) (by omega) ?_
        have hk' : Φ S (nI (1 + max (dpF G nl n (G k 1)) (dpF G nl n (G k 2)))) := by
          have e5 : (match some k with | none => 0 | some k => 1 + (if G k 0 = 112 then max (dpF G nl n (G k 1)) (dpF G nl n (G k 2)) else dpF G nl n (G k 1))) = 1 + max (dpF G nl n (G k 1)) (dpF G nl n (G k 2)) := by
            show 1 + (if G k 0 = 112 then max (dpF G nl n (G k 1)) (dpF G nl n (G k 2)) else dpF G nl n (G k 1)) = _
            rw [if_pos hp]
          rw [e5] at hk
          exact hk
        have d1 := dp_le hL n (G k 1) (by omega)
        have d2 := dp_le hL n (G k 2) (by omega)
        have em : (if nI (dpF G nl n (G k 1)) < nI (dpF G nl n (G k 2)) then nI (dpF G nl n (G k 2)) else nI (dpF G nl n (G k 1))) = nI (max (dpF G nl n (G k 1)) (dpF G nl n (G k 2))) := nI_max (by omega) (by omega)
        rw [em, add1]
        exact hk'
      · rw [if_neg hp]
        refine fi_p rfl ?_
        have e5 : (match some k with | none => 0 | some k => 1 + (if G k 0 = 112 then max (dpF G nl n (G k 1)) (dpF G nl n (G k 2)) else dpF G nl n (G k 1))) = 1 + dpF G nl n (G k 1) := by
          show 1 + (if G k 0 = 112 then max (dpF G nl n (G k 1)) (dpF G nl n (G k 2)) else dpF G nl n (G k 1)) = _
          rw [if_neg hp]
        rw [e5] at hk
        rw [add1]
        exact hk
theorem p_isBehind {ns inp : Nat} (hG : GrOK ns nl G) {lv : Nat → Nat} (hL : ∀ k s, k < nl → src G k s → lv s < lv (G k 3)) (hi : inp < ns) (hM : LkM G nl D) (hdr : DrA G nl ns 79 D) : ∀ (n s : Nat) (S : Hp) (Φ : Hp → Int32 → Prop), Rep A E ls nl nc nd S D → s < ns → lv s ≤ n → Φ S (bI (bhF G nl inp n s)) → wX8_isBehind (n + 1) S (A 70) (nI s) (nI inp) Φ := by
  obtain ⟨hns, hnl, hg, -⟩ := hG
  intro n
  induction n with
  | zero =>
    intro s S Φ h hs hlv hk
    have a79 := m_arr h 519 79 21 14
    have v79 : S.AI (A 79) (nI s).toNatClampNeg = -1 := rd_I h (al_s (by decide)) (by omega) (by rw [hdr s hs, lev0 hL (by omega)])
    show wX8_isBehind_b0 _ _ _ _ _ _
    unfold wX8_isBehind_b0
    have hk' : Φ S (bI (decide (s = inp))) := hk
    by_cases c : s = inp
    · rw [decide_eq_true c] at hk'
      exact fi_p (by rw [c]) hk'
    · rw [decide_eq_false c] at hk'
      refine fi_n (fun q => c ((nI_iff (by omega) (by omega)).mp q)) ⟨m_is h, A 79, a79.1, a79.2.1, by rw [a79.2.2]; exact in_nI (by omega) (by decide), ?_⟩
      rw [v79]
      exact if_p rfl hk'
  | succ n ih =>
    intro s S Φ h hs hlv hk
    have a79 := m_arr h 519 79 21 14
    show wX8_isBehind_b0 _ _ _ _ _ _
    unfold wX8_isBehind_b0
    rw [bhF_succ] at hk
    by_cases c : s = inp
    · rw [decide_eq_true c, Bool.true_or] at hk
      exact fi_p (by rw [c]) hk
    · rw [decide_eq_false c, Bool.false_or] at hk
      refine fi_n (fun q => c ((nI_iff (by omega) (by omega)).mp q)) ⟨m_is h, A 79, a79.1, a79.2.1, by rw [a79.2.2]; exact in_nI (by omega) (by decide), ?_⟩
      have hd := hdr s hs
      cases hq : drv G nl s with
      | none =>
        rw [hq] at hd hk
        have v79 : S.AI (A 79) (nI s).toNatClampNeg = -1 := rd_I h (al_s (by decide)) (by omega) hd
        rw [v79]
        exact if_p rfl hk
      | some k =>
        rw [hq] at hd hk
        have hk2 : Φ S (bI (bhF G nl inp n (G k 1) || (decide (G k 0 = 112) && bhF G nl inp n (G k 2)))) := hk
        obtain ⟨hkl, e⟩ := drv_some hq
        obtain ⟨hkk, hf, hs2, ht⟩ := hg k hkl
        obtain ⟨g1, g2, g3, g4, g5, g6⟩ := hM k hkl
        have l1 := hL k (G k 1) hkl (Or.inl rfl)
        rw [e] at l1
        have v79 : S.AI (A 79) (nI s).toNatClampNeg = nI k := rd_I h (al_s (by decide)) (by omega) hd
        have a82 := m_arr h 522 82 21 16
        have a83 := m_arr h 523 83 21 16
        have v82 : S.AI (A 82) (nI k).toNatClampNeg = nI (G k 1) := rd_I h (al_s (by decide)) (by omega) g2
        have v83 : S.AI (A 83) (nI k).toNatClampNeg = sec G k := rd_I h (al_s (by decide)) (by omega) g3
        have k16 : ∀ n, n = 16 → vp_in (nI k) n := fun n e => by
          rw [e]
          exact in_nI (by omega) (by decide)
        rw [v79]
        refine if_n (nI_nm (by omega)) ⟨A 82, a82.1, a82.2.1, k16 _ a82.2.2, ?_⟩
        rw [v82]
        refine ih (G k 1) S _ h hf (by omega) ?_
        cases hb1 : bhF G nl inp n (G k 1)
        · rw [hb1, Bool.false_or] at hk2
          refine fi_p rfl ⟨m_is h, A 83, a83.1, a83.2.1, k16 _ a83.2.2, ?_⟩
          rw [v83]
          by_cases hp : G k 0 = 112
          · have l2 := hL k (G k 2) hkl (Or.inr ⟨hp, rfl⟩)
            rw [e] at l2
            have hsec : sec G k = nI (G k 2) := if_pos hp
            rw [hsec]
            refine if_n (nI_nm (by have := hs2 hp; omega)) ⟨A 83, a83.1, a83.2.1, k16 _ a83.2.2, ?_⟩
            rw [v83, hsec]
            refine ih (G k 2) S _ h (hs2 hp) (by omega) ?_
            rw [decide_eq_true hp, Bool.true_and] at hk2
            cases hb2 : bhF G nl inp n (G k 2)
            · rw [hb2] at hk2
              exact if_p rfl hk2
            · rw [hb2] at hk2
              exact if_n (by decide) hk2
          · rw [decide_eq_false hp, Bool.false_and] at hk2
            have hsec : sec G k = -1 := if_neg hp
            rw [hsec]
            exact if_p rfl hk2
        · rw [hb1, Bool.true_or] at hk2
          exact fi_n (by decide) hk2
end DB9
