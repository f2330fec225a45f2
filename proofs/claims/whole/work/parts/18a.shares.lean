/-! RATIOS, SLACKS: what shafts share, by levels -/
theorem lev_rec {T : Type} {nl : Nat} {G : Nat → Nat → Nat} {lv : Nat → Nat} (hL : Lev nl G lv) (F : Nat → (Nat → T) → T) (hF : ∀ s Q Q', (∀ k, drv G nl s = some k → Q (G k 1) = Q' (G k 1) ∧ (G k 0 = 112 → Q (G k 2) = Q' (G k 2))) → F s Q = F s Q') (q0 : Nat → T) : ∃ Q : Nat → T, ∀ s, Q s = F s Q := by
  obtain ⟨R, -, hR⟩ := rec_ex q0 (fun Q s => F s Q)
  have st : ∀ n s, lv s ≤ n → R (n + 1) s = R (n + 2) s := by
    intro n
    induction n with
    | zero =>
      intro s hs
      rw [hR 0, hR 1]
      refine hF s _ _ (fun k hk => ?_)
      obtain ⟨h1, e⟩ := drv_some hk
      have := hL.1 k (G k 1) h1 (Or.inl rfl)
      rw [e] at this
      omega
    | succ n ih =>
      intro s hs
      rw [hR (n + 1), hR (n + 2)]
      refine hF s _ _ (fun k hk => ?_)
      obtain ⟨h1, e⟩ := drv_some hk
      have l1 := hL.1 k (G k 1) h1 (Or.inl rfl)
      rw [e] at l1
      refine ⟨ih _ (by omega), fun hp => ?_⟩
      have l2 := hL.1 k (G k 2) h1 (Or.inr ⟨hp, rfl⟩)
      rw [e] at l2
      exact ih _ (by omega)
  refine ⟨R 4, fun s => ?_⟩
  have := hL.2 s
  rw [st 3 s (by omega), hR 4]
def jrk (G : Nat → Nat → Nat) (k : Nat) : Bool := decide (G k 0 = 118) || decide (G k 0 = 114)
def UnV (G : Nat → Nat → Nat) (nl inp : Nat) (brk : Nat → Bool) (B : Nat → Bool) : Prop := ∀ s, B s = match drv G nl s with | none => false | some k => B (G k 1) || (decide (G k 0 = 112) && B (G k 2)) || (bh G nl inp s && (jrk G k && !brk k))
def Shr (G : Nat → Nat → Nat) (nl inp : Nat) (act : Nat → Bool) (Q : Nat → Rat) : Prop := ∀ s, Q s = match drv G nl s with | none => (if s = inp then 1 else 0) | some k => if act k = true then cry G k (ovz G k) Q else 0
def Slk (G : Nat → Nat → Nat) (nl : Nat) (sl : Nat → Nat) (Q : Nat → Rat) : Prop := ∀ s, Q s = match drv G nl s with | none => 0 | some k => (sl k : Rat) + cry G k ((ovz G k).natAbs : Nat) Q
theorem cry_congr {G : Nat → Nat → Nat} {k : Nat} {ov : Int} {V V' : Nat → Rat} (h1 : V (G k 1) = V' (G k 1)) (h2 : G k 0 = 112 → V (G k 2) = V' (G k 2)) : cry G k ov V = cry G k ov V' := by
  unfold cry
  rw [h1]
  by_cases c : G k 0 = 112
  · rw [if_pos c, if_pos c, h2 c]
  · rw [if_neg c, if_neg c]
theorem unV_ex {ns nl inp : Nat} {G : Nat → Nat → Nat} {lv : Nat → Nat} (_hG : GrOK ns nl G) (hL : Lev nl G lv) (brk : Nat → Bool) : ∃ B, UnV G nl inp brk B := by
  refine lev_rec hL (fun s B => match drv G nl s with | none => false | some k => B (G k 1) || (decide (G k 0 = 112) && B (G k 2)) || (bh G nl inp s && (jrk G k && !brk k))) (fun s Q Q' hq => ?_) (fun _ => false)
  cases e : drv G nl s with
  | none => rfl
  | some k =>
    obtain ⟨q1, q2⟩ := hq k e
    dsimp only
    rw [q1]
    by_cases c : G k 0 = 112
    · rw [q2 c]
    · rw [decide_eq_false c, Bool.false_and, Bool.false_and]
theorem shr_ex {nl inp : Nat} {G : Nat → Nat → Nat} {lv : Nat → Nat} (hL : Lev nl G lv) (act : Nat → Bool) : ∃ Q, Shr G nl inp act Q := by
  refine lev_rec hL (fun s Q => match drv G nl s with | none => (if s = inp then 1 else 0) | some k => if act k = true then cry G k (ovz G k) Q else 0) (fun s Q Q' hq => ?_) (fun _ => 0)
  cases e : drv G nl s with
  | none => rfl
  | some k =>
    obtain ⟨q1, q2⟩ := hq k e
    dsimp only
    rw [cry_congr q1 q2]
theorem slk_ex {nl : Nat} {G : Nat → Nat → Nat} {lv : Nat → Nat} (hL : Lev nl G lv) (sl : Nat → Nat) : ∃ Q, Slk G nl sl Q := by
  refine lev_rec hL (fun s Q => match drv G nl s with | none => 0 | some k => (sl k : Rat) + cry G k ((ovz G k).natAbs : Nat) Q) (fun s Q Q' hq => ?_) (fun _ => 0)
  cases e : drv G nl s with
  | none => rfl
  | some k =>
    obtain ⟨q1, q2⟩ := hq k e
    dsimp only
    rw [cry_congr q1 q2]
theorem hole_cov {k : Nat} {G : Nat → Nat → Nat} (hk : kOK G k) : (G k 0 = 103 ∨ G k 0 = 105) ∨ G k 0 = 107 ∨ G k 0 = 118 ∨ G k 0 = 114 ∨ G k 0 = 112 := by
  unfold kOK at hk
  omega
theorem cry_bd {ns nl k c : Nat} {G : Nat → Nat → Nat} {lv : Nat → Nat} {ov : Int} {V : Nat → Rat} (hG : GrOK ns nl G) (hL : Lev nl G lv) (hk : k < nl) (hov : ov.natAbs ≤ (ovz G k).natAbs) (b1 : Bd (dQ G nl 3 (G k 1)).1 (c * (dQ G nl 3 (G k 1)).2) (V (G k 1))) (b2 : G k 0 = 112 → Bd (dQ G nl 3 (G k 2)).1 (c * (dQ G nl 3 (G k 2)).2) (V (G k 2))) : Bd (dQ G nl 3 (G k 3)).1 (c * (dQ G nl 3 (G k 3)).2) (cry G k ov V) := by
  have hkk := (hG.2.2.1 k hk).1
  have up := unz_pos hkk
  rw [pq_link hG hL hk]
  generalize dQ G nl 3 (G k 1) = x at *
  generalize dQ G nl 3 (G k 2) = y at *
  have i1 := bd_div up.1 (bd_imul ov b1)
  unfold cry
  rcases hole_cov hkk with hc | hc | hc | hc | hc
  · have hn : G k 0 ≠ 112 := by omega
    have o : (ovz G k).natAbs = G k 4 := by
      unfold ovz
      rcases hc with hc | hc
      · rw [if_pos hc, Int.natAbs_neg, Int.natAbs_natCast]
      · rw [if_neg (by omega), if_pos (Or.inl hc), Int.natAbs_natCast]
    have u : unz G k = G k 5 := if_pos hc
    rw [if_neg hn, Rat.add_zero, cmb_g hc]
    rw [u] at i1 ⊢
    refine bd_le i1 ?_
    have m1 : G k 4 * x.2 ≤ max (x.1 * G k 5) (G k 4 * x.2) := Nat.le_max_right _ _
    have m2 := Nat.mul_le_mul_left c m1
    have m3 : c * x.2 * ov.natAbs ≤ c * x.2 * G k 4 := Nat.mul_le_mul_left _ (by omega)
    have m4 : c * x.2 * G k 4 = c * (G k 4 * x.2) := by ac_rfl
    show c * x.2 * ov.natAbs ≤ c * max (x.1 * G k 5) (G k 4 * x.2)
    omega
  · have hn : G k 0 ≠ 112 := by omega
    have o : (ovz G k).natAbs = 1 := by
      unfold ovz
      rw [if_neg (by omega), if_neg (by omega)]
      rfl
    have u : unz G k = 1 := by
      unfold unz
      rw [if_neg (by omega), if_neg (by omega), if_neg (by omega)]
    rw [if_neg hn, Rat.add_zero, cmb_k hc]
    rw [u] at i1 ⊢
    rw [Nat.mul_one] at i1
    refine bd_le i1 ?_
    have m2 := Nat.mul_le_mul_left c (Nat.le_max_right x.1 x.2)
    have m3 : c * x.2 * ov.natAbs ≤ c * x.2 * 1 := Nat.mul_le_mul_left _ (by omega)
    show c * x.2 * ov.natAbs ≤ c * max x.1 x.2
    omega
  · have hn : G k 0 ≠ 112 := by omega
    have o : (ovz G k).natAbs = 1 := by
      unfold ovz
      rw [if_neg (by omega), if_neg (by omega)]
      rfl
    have u : unz G k = G k 4 := by
      unfold unz
      rw [if_neg (by omega), if_neg (by omega), if_pos hc]
    rw [if_neg hn, Rat.add_zero, cmb_v hc]
    rw [u] at i1 ⊢
    refine bd_le i1 ?_
    have m1 : x.2 ≤ max (x.1 * G k 4) (x.2 + 24 * x.1) := Nat.le_trans (Nat.le_add_right _ _) (Nat.le_max_right _ _)
    have m2 := Nat.mul_le_mul_left c m1
    have m3 : c * x.2 * ov.natAbs ≤ c * x.2 * 1 := Nat.mul_le_mul_left _ (by omega)
    show c * x.2 * ov.natAbs ≤ c * max (x.1 * G k 4) (x.2 + 24 * x.1)
    omega
  · have hn : G k 0 ≠ 112 := by omega
    have o : (ovz G k).natAbs = 1 := by
      unfold ovz
      rw [if_neg (by omega), if_neg (by omega)]
      rfl
    have u : unz G k = 1 := by
      unfold unz
      rw [if_neg (by omega), if_neg (by omega), if_neg (by omega)]
    rw [if_neg hn, Rat.add_zero, cmb_r hc]
    rw [u] at i1 ⊢
    rw [Nat.mul_one] at i1
    refine bd_le (bd_scale (G k 4) i1) ?_
    have m1 : G k 4 * x.2 ≤ max (x.1 * G k 4) (G k 4 * x.2 + 24 * x.1) := Nat.le_trans (Nat.le_add_right _ _) (Nat.le_max_right _ _)
    have m2 := Nat.mul_le_mul_left c m1
    have m3 : c * x.2 * ov.natAbs * G k 4 ≤ c * x.2 * 1 * G k 4 := Nat.mul_le_mul_right _ (Nat.mul_le_mul_left _ (by omega))
    have m4 : c * x.2 * 1 * G k 4 = c * (G k 4 * x.2) := by
      rw [Nat.mul_one]
      ac_rfl
    show c * x.2 * ov.natAbs * G k 4 ≤ c * max (x.1 * G k 4) (G k 4 * x.2 + 24 * x.1)
    omega
  · have o : (ovz G k).natAbs = G k 4 := by
      unfold ovz
      rw [if_neg (by omega), if_pos (Or.inr hc), Int.natAbs_natCast]
    have u : unz G k = G k 4 + G k 5 := by
      unfold unz
      rw [if_neg (by omega), if_pos hc]
    rw [if_pos hc, cmb_p hc]
    have i2 := bd_div up.1 (bd_mul (G k 5) (bd_scale x.1 (b2 hc)))
    have i3 := bd_div up.1 (bd_imul ov (bd_scale y.1 b1))
    rw [Nat.mul_comm y.1 x.1] at i2
    rw [u] at i2 i3 ⊢
    refine bd_le (bd_add i3 i2) ?_
    have m1 : G k 4 * x.2 * y.1 + G k 5 * y.2 * x.1 ≤ max (x.1 * y.1 * (G k 4 + G k 5)) (G k 4 * x.2 * y.1 + G k 5 * y.2 * x.1) := Nat.le_max_right _ _
    have m2 := Nat.mul_le_mul_left c m1
    have m3 : c * x.2 * y.1 * ov.natAbs ≤ c * x.2 * y.1 * G k 4 := Nat.mul_le_mul_left _ (by omega)
    have m4 : c * x.2 * y.1 * G k 4 = c * (G k 4 * x.2 * y.1) := by ac_rfl
    have m5 : c * y.2 * x.1 * G k 5 = c * (G k 5 * y.2 * x.1) := by ac_rfl
    rw [Nat.mul_add] at m2
    show c * x.2 * y.1 * ov.natAbs + c * y.2 * x.1 * G k 5 ≤ c * max (x.1 * y.1 * (G k 4 + G k 5)) (G k 4 * x.2 * y.1 + G k 5 * y.2 * x.1)
    omega
theorem q_bd {ns nl : Nat} {G : Nat → Nat → Nat} {lv : Nat → Nat} {Q : Nat → Rat} (hG : GrOK ns nl G) (hL : Lev nl G lv) (h0 : ∀ s, drv G nl s = none → Q s = 0 ∨ Q s = 1) (h1 : ∀ s k, drv G nl s = some k → ∃ (e : Nat) (ov : Int), e ≤ 99 ∧ ov.natAbs ≤ (ovz G k).natAbs ∧ (Q s = 0 ∨ Q s = (e : Rat) + cry G k ov Q)) : ∀ n s, lv s ≤ n → Bd (dQ G nl 3 s).1 ((1 + 99 * n) * (dQ G nl 3 s).2) (Q s) := by
  have base : ∀ n s, drv G nl s = none → Bd (dQ G nl 3 s).1 ((1 + 99 * n) * (dQ G nl 3 s).2) (Q s) := fun n s hd => by
    obtain ⟨p1, p2, -, -⟩ := dQ_pos hG 3 s
    rcases h0 s hd with e | e
    · rw [e]
      exact bd_le (bd_0 _) (Nat.zero_le _)
    · rw [e]
      refine bd_int (z := 1) ?_
      show 1 * (dQ G nl 3 s).1 ≤ (1 + 99 * n) * (dQ G nl 3 s).2
      exact Nat.mul_le_mul (by omega) p2
  intro n
  induction n with
  | zero =>
    intro s hs
    exact base 0 s (lev0 hL.1 (by omega))
  | succ n ih =>
    intro s hs
    cases hd : drv G nl s with
    | none => exact base _ s hd
    | some k =>
      obtain ⟨hk, rfl⟩ := drv_some hd
      obtain ⟨e, ov, he, hov, hQ⟩ := h1 _ k hd
      obtain ⟨p1, p2, -, -⟩ := dQ_pos hG 3 (G k 3)
      rcases hQ with hQ | hQ
      · rw [hQ]
        exact bd_le (bd_0 _) (Nat.zero_le _)
      · have l1 := hL.1 k (G k 1) hk (Or.inl rfl)
        have c1 := cry_bd (c := 1 + 99 * n) (V := Q) hG hL hk hov (ih _ (by omega)) (fun hp => ih _ (by have := hL.1 k (G k 2) hk (Or.inr ⟨hp, rfl⟩); omega))
        have c0 : Bd (dQ G nl 3 (G k 3)).1 (e * (dQ G nl 3 (G k 3)).2) (((e : Nat) : Int) : Rat) := bd_int (by rw [Int.natAbs_natCast]; exact Nat.mul_le_mul_left _ p2)
        rw [hQ]
        refine bd_le (bd_add c0 c1) ?_
        rw [← Nat.add_mul]
        exact Nat.mul_le_mul_right _ (by omega)
theorem shr_bd {ns nl inp : Nat} {G : Nat → Nat → Nat} {lv : Nat → Nat} {act : Nat → Bool} {Q : Nat → Rat} (hG : GrOK ns nl G) (hL : Lev nl G lv) (h : Shr G nl inp act Q) (s : Nat) : Bd (dQ G nl 3 s).1 (298 * (dQ G nl 3 s).2) (Q s) := by
  refine q_bd hG hL (fun s hd => ?_) (fun s k hd => ⟨0, ovz G k, by decide, Nat.le_refl _, ?_⟩) 3 s (hL.2 s)
  · rw [h s, hd]
    dsimp only
    by_cases c : s = inp
    · rw [if_pos c]
      exact Or.inr rfl
    · rw [if_neg c]
      exact Or.inl rfl
  · have e : Q s = if act k = true then cry G k (ovz G k) Q else 0 := by
      rw [h s, hd]
    rw [e]
    by_cases c : act k = true
    · rw [if_pos c]
      exact Or.inr (Rat.zero_add _).symm
    · rw [if_neg c]
      exact Or.inl rfl
theorem slk_bd {ns nl : Nat} {G : Nat → Nat → Nat} {lv : Nat → Nat} {sl : Nat → Nat} {Q : Nat → Rat} (hG : GrOK ns nl G) (hL : Lev nl G lv) (hs : ∀ k, k < nl → sl k ≤ 99) (h : Slk G nl sl Q) (s : Nat) : Bd (dQ G nl 3 s).1 (298 * (dQ G nl 3 s).2) (Q s) := by
  refine q_bd hG hL (fun s hd => ?_) (fun s k hd => ⟨sl k, ((ovz G k).natAbs : Nat), hs k (drv_some hd).1, by rw [Int.natAbs_natCast]; exact Nat.le_refl _, ?_⟩) 3 s (hL.2 s)
  · rw [h s, hd]
    exact Or.inl rfl
  · refine Or.inr ?_
    have e : Q s = (sl k : Rat) + cry G k ((ovz G k).natAbs : Nat) Q := by
      rw [h s, hd]
    exact e
theorem unV_bh {ns nl inp : Nat} {G : Nat → Nat → Nat} {lv : Nat → Nat} {brk B : Nat → Bool} (hG : GrOK ns nl G) (hL : Lev nl G lv) (h : UnV G nl inp brk B) : ∀ n s, lv s ≤ n → bh G nl inp s = false → B s = false := by
  have hb : ∀ s, lv s ≤ 20 := fun s => by have := hL.2 s; omega
  intro n
  induction n with
  | zero =>
    intro s hs _
    rw [h s, lev0 hL.1 (by omega)]
  | succ n ih =>
    intro s hs hf
    rw [h s]
    cases hd : drv G nl s with
    | none => rfl
    | some k =>
      obtain ⟨hk, rfl⟩ := drv_some hd
      have hf2 := hf
      rw [bh_link hG hL.1 hb hk] at hf2
      simp only [Bool.or_eq_false_iff] at hf2
      have l1 := hL.1 k (G k 1) hk (Or.inl rfl)
      dsimp only
      rw [hf, ih (G k 1) (by omega) hf2.2.1]
      by_cases c : G k 0 = 112
      · have l2 := hL.1 k (G k 2) hk (Or.inr ⟨c, rfl⟩)
        rw [decide_eq_true c, Bool.true_and] at hf2
        rw [ih (G k 2) (by omega) hf2.2.2, Bool.and_false]
        rfl
      · rw [decide_eq_false c]
        rfl
theorem shr_bh {ns nl inp : Nat} {G : Nat → Nat → Nat} {lv : Nat → Nat} {act : Nat → Bool} {Q : Nat → Rat} (hG : GrOK ns nl G) (hL : Lev nl G lv) (h : Shr G nl inp act Q) : ∀ n s, lv s ≤ n → bh G nl inp s = false → Q s = 0 := by
  have hb : ∀ s, lv s ≤ 20 := fun s => by have := hL.2 s; omega
  intro n
  induction n with
  | zero =>
    intro s hs hf
    rw [h s, lev0 hL.1 (by omega)]
    rw [bh_none (lev0 hL.1 (by omega))] at hf
    exact if_neg (of_decide_eq_false hf)
  | succ n ih =>
    intro s hs hf
    rw [h s]
    cases hd : drv G nl s with
    | none =>
      rw [bh_none hd] at hf
      exact if_neg (of_decide_eq_false hf)
    | some k =>
      obtain ⟨hk, rfl⟩ := drv_some hd
      rw [bh_link hG hL.1 hb hk] at hf
      simp only [Bool.or_eq_false_iff] at hf
      have l1 := hL.1 k (G k 1) hk (Or.inl rfl)
      dsimp only
      by_cases ca : act k = true
      · rw [if_pos ca]
        unfold cry
        rw [ih (G k 1) (by omega) hf.2.1, Rat.zero_mul, Rat.div_def, Rat.zero_mul]
        by_cases c : G k 0 = 112
        · have l2 := hL.1 k (G k 2) hk (Or.inr ⟨c, rfl⟩)
          rw [decide_eq_true c, Bool.true_and] at hf
          rw [if_pos c, ih (G k 2) (by omega) hf.2.2, Rat.zero_mul, Rat.div_def, Rat.zero_mul]
          exact Rat.zero_add 0
        · rw [if_neg c]
          exact Rat.zero_add 0
      · rw [if_neg ca]
