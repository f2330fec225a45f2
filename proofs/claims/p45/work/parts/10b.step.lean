/-! A STEP: tn what each shaft turns, P the places ahead of it, mk the marks of ratchets -/
def ctr (G : Nat → Nat → Nat) (k : Nat) (tn P : Nat → Rat) (m : Int) : Rat :=
  if G k 0 = 103 then -(tn (G k 1) * (G k 4 : Rat) / (G k 5 : Rat))
  else if G k 0 = 105 then tn (G k 1) * (G k 4 : Rat) / (G k 5 : Rat)
  else if G k 0 = 107 then tn (G k 1)
  else if G k 0 = 118 then ((fl 1 (P (G k 1) + tn (G k 1)) - fl 1 (P (G k 1)) : Int) : Rat) / (G k 4 : Rat)
  else if G k 0 = 114 then ((max 0 (fl (G k 4 : Nat) (P (G k 1) + tn (G k 1)) - m) : Int) : Rat) / (G k 4 : Rat)
  else tn (G k 1) * (G k 4 : Rat) / ((G k 4 + G k 5 : Nat) : Rat) + tn (G k 2) * (G k 5 : Rat) / ((G k 4 + G k 5 : Nat) : Rat)
section CT9
variable {G : Nat → Nat → Nat} {k : Nat} {tn P : Nat → Rat} {m : Int}
theorem ctr_g (h : G k 0 = 103) : ctr G k tn P m = -(tn (G k 1) * (G k 4 : Rat) / (G k 5 : Rat)) := if_pos h
theorem ctr_i (h : G k 0 = 105) : ctr G k tn P m = tn (G k 1) * (G k 4 : Rat) / (G k 5 : Rat) := by
  unfold ctr
  rw [if_neg (show ¬ G k 0 = 103 by omega), if_pos h]
theorem ctr_k (h : G k 0 = 107) : ctr G k tn P m = tn (G k 1) := by
  unfold ctr
  rw [if_neg (show ¬ G k 0 = 103 by omega), if_neg (show ¬ G k 0 = 105 by omega), if_pos h]
theorem ctr_v (h : G k 0 = 118) : ctr G k tn P m = ((fl 1 (P (G k 1) + tn (G k 1)) - fl 1 (P (G k 1)) : Int) : Rat) / (G k 4 : Rat) := by
  unfold ctr
  rw [if_neg (show ¬ G k 0 = 103 by omega), if_neg (show ¬ G k 0 = 105 by omega), if_neg (show ¬ G k 0 = 107 by omega), if_pos h]
theorem ctr_r (h : G k 0 = 114) : ctr G k tn P m = ((max 0 (fl (G k 4 : Nat) (P (G k 1) + tn (G k 1)) - m) : Int) : Rat) / (G k 4 : Rat) := by
  unfold ctr
  rw [if_neg (show ¬ G k 0 = 103 by omega), if_neg (show ¬ G k 0 = 105 by omega), if_neg (show ¬ G k 0 = 107 by omega), if_neg (show ¬ G k 0 = 118 by omega), if_pos h]
theorem ctr_p (h : G k 0 = 112) : ctr G k tn P m = tn (G k 1) * (G k 4 : Rat) / ((G k 4 + G k 5 : Nat) : Rat) + tn (G k 2) * (G k 5 : Rat) / ((G k 4 + G k 5 : Nat) : Rat) := by
  unfold ctr
  rw [if_neg (show ¬ G k 0 = 103 by omega), if_neg (show ¬ G k 0 = 105 by omega), if_neg (show ¬ G k 0 = 107 by omega), if_neg (show ¬ G k 0 = 118 by omega), if_neg (show ¬ G k 0 = 114 by omega)]
end CT9
def mkn (G : Nat → Nat → Nat) (k : Nat) (x : Rat) (m : Int) : Int := if G k 0 = 114 then max m (fl (G k 4 : Nat) x) else m
def StepEq (G : Nat → Nat → Nat) (nl : Nat) (act : Nat → Bool) (P : Nat → Rat) (mk : Nat → Int) (inp : Nat) (wy : Int) (tn : Nat → Rat) (mk' : Nat → Int) : Prop :=
  tn inp = Rat.divInt wy 24 ∧ (∀ s, s ≠ inp → (∀ k, k < nl → act k = true → G k 3 ≠ s) → tn s = 0) ∧
  (∀ k, k < nl → act k = true → G k 3 ≠ inp ∧ tn (G k 3) = ctr G k tn P (mk k) ∧ mk' k = mkn G k (P (G k 1) + tn (G k 1)) (mk k)) ∧
  ∀ k, ¬ (k < nl ∧ act k = true) → mk' k = mk k
/-- no ratchet that acts is behind what it has seen -/
def RI (G : Nat → Nat → Nat) (nl : Nat) (act : Nat → Bool) (P : Nat → Rat) (mk : Nat → Int) : Prop := ∀ k, k < nl → act k = true → G k 0 = 114 → fl (G k 4 : Nat) (P (G k 1)) ≤ mk k
theorem ri_step {G : Nat → Nat → Nat} {nl : Nat} {act : Nat → Bool} {P : Nat → Rat} {mk : Nat → Int} {inp : Nat} {wy : Int} {tn : Nat → Rat} {mk' : Nat → Int} (h : StepEq G nl act P mk inp wy tn mk') : RI G nl act (fun s => P s + tn s) mk' := by
  intro k hk ha h0
  rw [(h.2.2.1 k hk ha).2.2]
  unfold mkn
  rw [if_pos h0]
  exact Int.le_max_right _ _
theorem ctr_congr {G : Nat → Nat → Nat} {k : Nat} {tn tn' P : Nat → Rat} {m : Int} (hk : kOK G k) (h1 : tn (G k 1) = tn' (G k 1)) (h2 : G k 0 = 112 → tn (G k 2) = tn' (G k 2)) : ctr G k tn P m = ctr G k tn' P m := by
  unfold ctr
  rw [h1]
  by_cases hp : G k 0 = 112
  · rw [h2 hp]
  · have hc : G k 0 = 103 ∨ G k 0 = 105 ∨ G k 0 = 107 ∨ G k 0 = 118 ∨ G k 0 = 114 := by
      unfold kOK at hk
      omega
    rcases hc with hc | hc | hc | hc | hc <;> simp [hc]
def drvA (G : Nat → Nat → Nat) (nl : Nat) (act : Nat → Bool) (s : Nat) : Option Nat := (List.range nl).find? (fun k => act k && decide (G k 3 = s))
theorem drvA_none {G : Nat → Nat → Nat} {nl s : Nat} {act : Nat → Bool} : drvA G nl act s = none ↔ ∀ k, k < nl → act k = true → G k 3 ≠ s := by
  unfold drvA
  rw [List.find?_eq_none]
  constructor
  · intro h k hk ha e
    exact h k (List.mem_range.mpr hk) (by rw [ha, decide_eq_true e]; rfl)
  · intro h k hk e
    simp only [Bool.and_eq_true, decide_eq_true_eq] at e
    exact h k (List.mem_range.mp hk) e.1 e.2
theorem drvA_some {G : Nat → Nat → Nat} {nl s k : Nat} {act : Nat → Bool} (h : drvA G nl act s = some k) : k < nl ∧ act k = true ∧ G k 3 = s := by
  unfold drvA at h
  have h1 := List.find?_some h
  simp only [Bool.and_eq_true, decide_eq_true_eq] at h1
  exact ⟨List.mem_range.mp (List.mem_of_find?_eq_some h), h1.1, h1.2⟩
theorem drvA_of {ns nl : Nat} {G : Nat → Nat → Nat} {act : Nat → Bool} (hG : GrOK ns nl G) {k : Nat} (hk : k < nl) (ha : act k = true) : drvA G nl act (G k 3) = some k := by
  cases h : drvA G nl act (G k 3) with
  | none => exact absurd rfl (drvA_none.mp h k hk ha)
  | some k' =>
    obtain ⟨h1, -, h2⟩ := drvA_some h
    rw [hG.2.2.2 k' k h1 hk h2]
def bs (inp : Nat) (wy : Int) (s : Nat) : Rat := if s = inp then Rat.divInt wy 24 else 0
def tnF (G : Nat → Nat → Nat) (nl : Nat) (act : Nat → Bool) (P : Nat → Rat) (mk : Nat → Int) (inp : Nat) (wy : Int) : Nat → Nat → Rat
  | 0, s => bs inp wy s
  | n + 1, s => match drvA G nl act s with
    | none => bs inp wy s
    | some k => ctr G k (tnF G nl act P mk inp wy n) P (mk k)
theorem tnF_step {ns nl : Nat} {G : Nat → Nat → Nat} {lv : Nat → Nat} (hG : GrOK ns nl G) (hL : Lev nl G lv) {act : Nat → Bool} {P : Nat → Rat} {mk : Nat → Int} {inp : Nat} {wy : Int} : ∀ n s, lv s ≤ n → tnF G nl act P mk inp wy n s = tnF G nl act P mk inp wy (n + 1) s := by
  intro n
  induction n with
  | zero =>
    intro s hs
    have h : drvA G nl act s = none := by
      cases h : drvA G nl act s with
      | none => rfl
      | some k =>
        obtain ⟨hk, -, e⟩ := drvA_some h
        have := hL.1 k (G k 1) hk (Or.inl rfl)
        rw [e] at this
        omega
    show bs inp wy s = tnF G nl act P mk inp wy 1 s
    unfold tnF
    rw [h]
  | succ n ih =>
    intro s hs
    show (match drvA G nl act s with | none => bs inp wy s | some k => ctr G k (tnF G nl act P mk inp wy n) P (mk k)) = (match drvA G nl act s with | none => bs inp wy s | some k => ctr G k (tnF G nl act P mk inp wy (n + 1)) P (mk k))
    cases h : drvA G nl act s with
    | none => rfl
    | some k =>
      obtain ⟨hk, -, e⟩ := drvA_some h
      have h1 := hL.1 k (G k 1) hk (Or.inl rfl)
      rw [e] at h1
      refine ctr_congr (hG.2.2.1 k hk).1 (ih _ (by omega)) (fun hp => ?_)
      have h2 := hL.1 k (G k 2) hk (Or.inr ⟨hp, rfl⟩)
      rw [e] at h2
      exact ih _ (by omega)
theorem step_ex {ns nl : Nat} {G : Nat → Nat → Nat} {lv : Nat → Nat} (hG : GrOK ns nl G) (hL : Lev nl G lv) (act : Nat → Bool) (P : Nat → Rat) (mk : Nat → Int) (inp : Nat) (wy : Int) (hi : ∀ k, k < nl → act k = true → G k 3 ≠ inp) : ∃ tn mk', StepEq G nl act P mk inp wy tn mk' := by
  have key : ∀ s, tnF G nl act P mk inp wy 3 s = tnF G nl act P mk inp wy 4 s := fun s => tnF_step hG hL 3 s (hL.2 s)
  have e4 : ∀ s, tnF G nl act P mk inp wy 4 s = (match drvA G nl act s with | none => bs inp wy s | some k => ctr G k (tnF G nl act P mk inp wy 3) P (mk k)) := fun s => rfl
  refine ⟨tnF G nl act P mk inp wy 3, fun k => if k < nl ∧ act k = true then mkn G k (P (G k 1) + tnF G nl act P mk inp wy 3 (G k 1)) (mk k) else mk k, ?_, fun s hs hn => ?_, fun k hk ha => ⟨hi k hk ha, ?_, if_pos ⟨hk, ha⟩⟩, fun k hk => if_neg hk⟩
  · rw [key, e4, drvA_none.mpr hi]
    exact if_pos rfl
  · rw [key, e4, drvA_none.mpr hn]
    exact if_neg hs
  · rw [key, e4, drvA_of hG hk ha]
/-! how far a step goes -/
theorem fl_eq (t : Int) (q : Rat) : fl t q = ((t : Rat) * q).floor := (floor_times q t).symm
theorem fl_diff {a M B : Nat} {q t : Rat} (h : Bd M B t) : ((fl (a : Nat) (q + t) - fl (a : Nat) q).natAbs) * M ≤ a * B + M := by
  obtain ⟨X, h1, h2⟩ := h
  rw [fl_eq, fl_eq]
  generalize hz1 : (((a : Nat) : Int) : Rat) * (q + t) = x1
  generalize hz2 : (((a : Nat) : Int) : Rat) * q = x2
  have hy : x1 = x2 + (((a : Nat) : Int) : Rat) * t := by
    rw [← hz1, ← hz2]
    grind
  have a1 := Rat.floor_le x1
  have a2 := Rat.lt_floor_add_one x1
  have b1 := Rat.floor_le x2
  have b2 := Rat.lt_floor_add_one x2
  rw [Rat.intCast_add, Rat.intCast_one] at a2 b2
  generalize x1.floor = f1 at *
  generalize x2.floor = f2 at *
  have hM : (0 : Rat) ≤ (M : Rat) := Rat.natCast_nonneg
  have up : ((f1 - f2 : Int) : Rat) ≤ (((a : Nat) : Int) : Rat) * t + 1 := by
    rw [Rat.intCast_sub]
    grind
  have dn : (((a : Nat) : Int) : Rat) * t - 1 ≤ ((f1 - f2 : Int) : Rat) := by
    rw [Rat.intCast_sub]
    grind
  have eX : (((a : Nat) : Int) : Rat) * t * (M : Rat) = (((a : Int) * X : Int) : Rat) := by
    rw [Rat.intCast_mul, ← h1, Rat.mul_assoc]
  have up2' := Rat.mul_le_mul_of_nonneg_right up hM
  have dn2 := Rat.mul_le_mul_of_nonneg_right dn hM
  rw [Rat.add_mul, Rat.one_mul, eX] at up2'
  have e3 : ((((a : Nat) : Int) : Rat) * t - 1) * (M : Rat) = (((a : Int) * X : Int) : Rat) - (M : Rat) := by
    rw [← eX]
    grind
  rw [e3] at dn2
  have eM : (M : Rat) = ((M : Int) : Rat) := rfl
  rw [eM, ← Rat.intCast_mul, ← Rat.intCast_add, Rat.intCast_le_intCast] at up2'
  rw [eM, ← Rat.intCast_mul, ← Rat.intCast_sub, Rat.intCast_le_intCast] at dn2
  have h3 : ((a : Int) * X).natAbs ≤ a * B := by
    rw [Int.natAbs_mul, Int.natAbs_natCast]
    exact Nat.mul_le_mul_left _ h2
  have h4 : (f1 - f2).natAbs * M = ((f1 - f2) * M).natAbs := by
    rw [Int.natAbs_mul, Int.natAbs_natCast]
  rw [h4]
  generalize (a : Int) * X = Y at *
  generalize (f1 - f2) * (M : Int) = Z at *
  generalize a * B = W at *
  omega
theorem tn_bd {ns nl : Nat} {G : Nat → Nat → Nat} {lv : Nat → Nat} (hG : GrOK ns nl G) (hL : Lev nl G lv) {act : Nat → Bool} {P : Nat → Rat} {mk : Nat → Int} {inp : Nat} {wy : Int} {tn : Nat → Rat} {mk' : Nat → Int}
    (hw : wy.natAbs ≤ 1) (h : StepEq G nl act P mk inp wy tn mk') (hR : RI G nl act P mk) : ∀ s, Bd (pm G nl s) (qm G nl s) (tn s) := by
  have main : ∀ n s, lv s ≤ n → Bd (pm G nl s) (qm G nl s) (tn s) := by
    intro n
    induction n with
    | zero => ?_
    | succ n ih => ?_
    all_goals intro s hs
    all_goals
      by_cases hi : s = inp
      · rw [hi, h.1]
        obtain ⟨p1, p2, -, -⟩ := dQ_pos hG 3 inp
        refine ⟨wy * ((dQ G nl 3 inp).1 : Nat), ?_, ?_⟩
        · unfold pm
          have h24 : ((24 : Int) : Rat) ≠ 0 := by decide
          rw [Rat.divInt_eq_div, Rat.intCast_mul, Rat.natCast_mul]
          have e : ((24 : Nat) : Rat) = ((24 : Int) : Rat) := rfl
          rw [e, ← Rat.mul_assoc, Rat.div_mul_cancel h24]
          rfl
        · unfold qm
          rw [Int.natAbs_mul, Int.natAbs_natCast]
          have : wy.natAbs * (dQ G nl 3 inp).1 ≤ 1 * (dQ G nl 3 inp).1 := Nat.mul_le_mul_right _ hw
          omega
      by_cases hd : ∀ k, k < nl → act k = true → G k 3 ≠ s
      · rw [h.2.1 s hi hd]
        exact bd_le (bd_0 _) (Nat.zero_le _)
    · exfalso
      refine hd (fun k hk ha e => ?_)
      have := hL.1 k (G k 1) hk (Or.inl rfl)
      rw [e] at this
      omega
    · obtain ⟨k, hk, ha, rfl⟩ : ∃ k, k < nl ∧ act k = true ∧ G k 3 = s := by
        refine Classical.byContradiction (fun q => hd (fun k hk ha e => q ⟨k, hk, ha, e⟩))
      obtain ⟨-, e1, -⟩ := h.2.2.1 k hk ha
      have hkk := (hG.2.2.1 k hk).1
      have l1 := hL.1 k (G k 1) hk (Or.inl rfl)
      have b1 := ih (G k 1) (by omega)
      rw [e1]
      unfold pm qm
      rw [pq_link hG hL hk]
      unfold pm qm at b1
      obtain ⟨p1, p2, -, -⟩ := dQ_pos hG 3 (G k 1)
      obtain ⟨r1, r2, -, -⟩ := dQ_pos hG 3 (G k 2)
      have hcase : (G k 0 = 103 ∨ G k 0 = 105) ∨ G k 0 = 107 ∨ G k 0 = 118 ∨ G k 0 = 114 ∨ G k 0 = 112 := by
        unfold kOK at hkk
        omega
      rcases hcase with hc | hc | hc | hc | hc
      · have hb : 0 < G k 5 := by
          unfold kOK at hkk
          omega
        have b2 := bd_div hb (bd_mul (G k 4) b1)
        have e2 : 24 * (dQ G nl 3 (G k 1)).1 * G k 5 = 24 * ((dQ G nl 3 (G k 1)).1 * G k 5) := Nat.mul_assoc _ _ _
        rw [e2] at b2
        have b3 := bd_le b2 (B' := max ((dQ G nl 3 (G k 1)).1 * G k 5) (G k 4 * (dQ G nl 3 (G k 1)).2)) (by rw [Nat.mul_comm]; exact Nat.le_max_right _ _)
        rw [cmb_g hc]
        rcases hc with hc | hc
        · rw [ctr_g hc]
          exact bd_neg b3
        · rw [ctr_i hc]
          exact b3
      · rw [ctr_k hc, cmb_k hc]
        exact bd_le b1 (Nat.le_max_right _ _)
      · rw [ctr_v hc, cmb_v hc]
        have ha0 : 0 < G k 4 := by
          unfold kOK at hkk
          omega
        have b2 := fl_diff (a := 1) (q := P (G k 1)) b1
        have b3 := bd_div ha0 (bd_int (M := 24 * (dQ G nl 3 (G k 1)).1) b2)
        have e2 : 24 * (dQ G nl 3 (G k 1)).1 * G k 4 = 24 * ((dQ G nl 3 (G k 1)).1 * G k 4) := Nat.mul_assoc _ _ _
        rw [e2] at b3
        exact bd_le b3 (by rw [Nat.one_mul]; exact Nat.le_max_right _ _)
      · rw [ctr_r hc, cmb_r hc]
        have ha0 : 0 < G k 4 := by
          unfold kOK at hkk
          omega
        have b2 := fl_diff (a := G k 4) (q := P (G k 1)) b1
        have hm := hR k hk ha hc
        have b4 : (max 0 (fl (G k 4 : Nat) (P (G k 1) + tn (G k 1)) - mk k)).natAbs * (24 * (dQ G nl 3 (G k 1)).1) ≤ G k 4 * (dQ G nl 3 (G k 1)).2 + 24 * (dQ G nl 3 (G k 1)).1 := by
          refine Nat.le_trans (Nat.mul_le_mul_right _ ?_) b2
          omega
        have b3 := bd_div ha0 (bd_int (M := 24 * (dQ G nl 3 (G k 1)).1) b4)
        have e2 : 24 * (dQ G nl 3 (G k 1)).1 * G k 4 = 24 * ((dQ G nl 3 (G k 1)).1 * G k 4) := Nat.mul_assoc _ _ _
        rw [e2] at b3
        exact bd_le b3 (Nat.le_max_right _ _)
      · rw [ctr_p hc, cmb_p hc]
        have hb : 0 < G k 4 + G k 5 := by
          unfold kOK at hkk
          omega
        have l2 := hL.1 k (G k 2) hk (Or.inr ⟨hc, rfl⟩)
        have c1 := ih (G k 2) (by omega)
        unfold pm qm at c1
        have b2 := bd_scale (dQ G nl 3 (G k 2)).1 (bd_div hb (bd_mul (G k 4) b1))
        have c2 := bd_scale (dQ G nl 3 (G k 1)).1 (bd_div hb (bd_mul (G k 5) c1))
        have e2 : 24 * (dQ G nl 3 (G k 1)).1 * (G k 4 + G k 5) * (dQ G nl 3 (G k 2)).1 = 24 * ((dQ G nl 3 (G k 1)).1 * (dQ G nl 3 (G k 2)).1 * (G k 4 + G k 5)) := by ac_rfl
        have e3 : 24 * (dQ G nl 3 (G k 2)).1 * (G k 4 + G k 5) * (dQ G nl 3 (G k 1)).1 = 24 * ((dQ G nl 3 (G k 1)).1 * (dQ G nl 3 (G k 2)).1 * (G k 4 + G k 5)) := by ac_rfl
        rw [e2] at b2
        rw [e3] at c2
        have d := bd_add b2 c2
        refine bd_le d ?_
        have e4 : (dQ G nl 3 (G k 1)).2 * G k 4 * (dQ G nl 3 (G k 2)).1 = G k 4 * (dQ G nl 3 (G k 1)).2 * (dQ G nl 3 (G k 2)).1 := by ac_rfl
        have e5 : (dQ G nl 3 (G k 2)).2 * G k 5 * (dQ G nl 3 (G k 1)).1 = G k 5 * (dQ G nl 3 (G k 2)).2 * (dQ G nl 3 (G k 1)).1 := by ac_rfl
        rw [e4, e5]
        exact Nat.le_max_right _ _
  exact fun s => main 3 s (hL.2 s)
/-- places behind n steps -/
def BdP (G : Nat → Nat → Nat) (nl n : Nat) (P : Nat → Rat) : Prop := ∀ s, Bd (pm G nl s) (n * qm G nl s) (P s)
theorem bdP_step {G : Nat → Nat → Nat} {nl n : Nat} {P tn : Nat → Rat} (h : BdP G nl n P) (ht : ∀ s, Bd (pm G nl s) (qm G nl s) (tn s)) : BdP G nl (n + 1) (fun s => P s + tn s) := by
  intro s
  have := bd_add (h s) (ht s)
  rw [Nat.succ_mul]
  exact this
