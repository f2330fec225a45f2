/-! THE LINKS AS NUMBERS: G k 0 the kind, 1 the first shaft, 2 the second one (of planets), 3 the driven one, 4 a, 5 b -/
def kOK (G : Nat → Nat → Nat) (k : Nat) : Prop :=
  ((G k 0 = 103 ∨ G k 0 = 105 ∨ G k 0 = 112) ∧ 6 ≤ G k 4 ∧ G k 4 ≤ 30 ∧ 6 ≤ G k 5 ∧ G k 5 ≤ 30) ∨ (G k 0 = 118 ∧ 3 ≤ G k 4 ∧ G k 4 ≤ 12 ∧ G k 5 = 0) ∨ (G k 0 = 114 ∧ 3 ≤ G k 4 ∧ G k 4 ≤ 24 ∧ G k 5 = 0) ∨ (G k 0 = 107 ∧ G k 4 = 0 ∧ G k 5 = 0)
/-- s drives k -/
def src (G : Nat → Nat → Nat) (k s : Nat) : Prop := s = G k 1 ∨ (G k 0 = 112 ∧ s = G k 2)
def GrOK (ns nl : Nat) (G : Nat → Nat → Nat) : Prop := ns ≤ 14 ∧ nl ≤ 14 ∧ (∀ k, k < nl → kOK G k ∧ G k 1 < ns ∧ (G k 0 = 112 → G k 2 < ns) ∧ G k 3 < ns) ∧ ∀ k k', k < nl → k' < nl → G k 3 = G k' 3 → k = k'
def Lev (nl : Nat) (G : Nat → Nat → Nat) (lv : Nat → Nat) : Prop := (∀ k s, k < nl → src G k s → lv s < lv (G k 3)) ∧ ∀ s, lv s ≤ 3
def drv (G : Nat → Nat → Nat) (nl s : Nat) : Option Nat := (List.range nl).find? (fun k => decide (G k 3 = s))
theorem drv_none {G : Nat → Nat → Nat} {nl s : Nat} : drv G nl s = none ↔ ∀ k, k < nl → G k 3 ≠ s := by
  unfold drv
  rw [List.find?_eq_none]
  constructor
  · intro h k hk e
    exact h k (List.mem_range.mpr hk) (decide_eq_true e)
  · intro h k hk e
    exact h k (List.mem_range.mp hk) (of_decide_eq_true e)
theorem drv_some {G : Nat → Nat → Nat} {nl s k : Nat} (h : drv G nl s = some k) : k < nl ∧ G k 3 = s := by
  unfold drv at h
  have h1 := List.find?_some h
  simp only [decide_eq_true_eq] at h1
  exact ⟨List.mem_range.mp (List.mem_of_find?_eq_some h), h1⟩
theorem drv_of {ns nl : Nat} {G : Nat → Nat → Nat} (hG : GrOK ns nl G) {k : Nat} (hk : k < nl) : drv G nl (G k 3) = some k := by
  cases h : drv G nl (G k 3) with
  | none => exact absurd rfl (drv_none.mp h k hk)
  | some k' =>
    obtain ⟨h1, h2⟩ := drv_some h
    rw [hG.2.2.2 k' k h1 hk h2]
/-! bounds -/
def Bd (M B : Nat) (q : Rat) : Prop := ∃ X : Int, q * (M : Rat) = (X : Rat) ∧ X.natAbs ≤ B
theorem bd_bq {M B : Nat} {q : Rat} (hM : 0 < M) (h : Bd M B q) : Bq M B q := by
  obtain ⟨X, h1, h2⟩ := h
  have h3 : q = Rat.divInt X M := by
    rw [Rat.divInt_eq_div, ← h1]
    have : ((M : Int) : Rat) ≠ 0 := by
      intro e
      have := Rat.intCast_inj.mp (e.trans Rat.intCast_zero.symm)
      omega
    have e2 : ((M : Int) : Rat) = (M : Rat) := rfl
    rw [e2] at this ⊢
    exact (Rat.mul_div_cancel this).symm
  have hM' : (0 : Int) < M := by omega
  have hn := nf_num X hM'
  have hd := nf_den X hM'
  rw [← h3] at hn hd
  have e1 := Int.mul_ediv_cancel' (Int.gcd_dvd_left X (M : Int))
  have e2 := Int.mul_ediv_cancel' (Int.gcd_dvd_right X (M : Int))
  rw [← hn] at e1
  rw [← hd] at e2
  refine ⟨q.den_pos, Int.gcd X M, ?_, ?_⟩
  · have e3 : ((Int.gcd X M * q.den : Nat) : Int) = (M : Int) := by
      rw [Int.natCast_mul]
      exact e2
    have := Int.ofNat.inj e3
    rw [Nat.mul_comm] at this
    exact this.symm
  · have e4 : (q.num).natAbs * Int.gcd X M = X.natAbs := by
      rw [← e1, Int.natAbs_mul, Int.natAbs_natCast, Nat.mul_comm, e1]
    rw [e4]
    exact h2
theorem bd_le {M B B' : Nat} {q : Rat} (h : Bd M B q) (hB : B ≤ B') : Bd M B' q := by
  obtain ⟨X, h1, h2⟩ := h
  exact ⟨X, h1, Nat.le_trans h2 hB⟩
theorem bd_0 (M : Nat) : Bd M 0 0 := ⟨0, by rw [Rat.zero_mul]; rfl, Nat.le_refl 0⟩
theorem bd_add {M B1 B2 : Nat} {q1 q2 : Rat} (h1 : Bd M B1 q1) (h2 : Bd M B2 q2) : Bd M (B1 + B2) (q1 + q2) := by
  obtain ⟨X, a1, a2⟩ := h1
  obtain ⟨Y, b1, b2⟩ := h2
  refine ⟨X + Y, ?_, by omega⟩
  rw [Rat.add_mul, a1, b1, Rat.intCast_add]
theorem bd_neg {M B : Nat} {q : Rat} (h : Bd M B q) : Bd M B (-q) := by
  obtain ⟨X, a1, a2⟩ := h
  refine ⟨-X, ?_, by omega⟩
  rw [Rat.neg_mul, a1, Rat.intCast_neg]
theorem bd_scale {M B : Nat} {q : Rat} (m : Nat) (h : Bd M B q) : Bd (M * m) (B * m) q := by
  obtain ⟨X, a1, a2⟩ := h
  refine ⟨X * m, ?_, ?_⟩
  · rw [Rat.natCast_mul, ← Rat.mul_assoc, a1, Rat.intCast_mul]
    rfl
  · rw [Int.natAbs_mul, Int.natAbs_natCast]
    exact Nat.mul_le_mul_right _ a2
theorem bd_mul {M B : Nat} {q : Rat} (a : Nat) (h : Bd M B q) : Bd M (B * a) (q * (a : Rat)) := by
  obtain ⟨X, a1, a2⟩ := h
  refine ⟨X * a, ?_, ?_⟩
  · have e : q * (a : Rat) * (M : Rat) = q * (M : Rat) * (a : Rat) := by grind
    rw [e, a1, Rat.intCast_mul]
    rfl
  · rw [Int.natAbs_mul, Int.natAbs_natCast]
    exact Nat.mul_le_mul_right _ a2
theorem nat_ne {b : Nat} (hb : 0 < b) : (b : Rat) ≠ 0 := by
  intro e
  have h1 : ((b : Int) : Rat) = ((0 : Int) : Rat) := e
  have := Rat.intCast_inj.mp h1
  omega
theorem bd_div {M B b : Nat} {q : Rat} (hb : 0 < b) (h : Bd M B q) : Bd (M * b) B (q / (b : Rat)) := by
  obtain ⟨X, a1, a2⟩ := h
  refine ⟨X, ?_, a2⟩
  have hn := nat_ne hb
  rw [Rat.natCast_mul, ← a1]
  have e : q / (b : Rat) * ((M : Rat) * (b : Rat)) = q / (b : Rat) * (b : Rat) * (M : Rat) := by grind
  rw [e, Rat.div_mul_cancel hn]
theorem bd_int {M B : Nat} {z : Int} (h : z.natAbs * M ≤ B) : Bd M B (z : Rat) := by
  refine ⟨z * M, ?_, ?_⟩
  · rw [Rat.intCast_mul]
    rfl
  · rw [Int.natAbs_mul, Int.natAbs_natCast]
    exact h
/-- p and q of a shaft: 24 p is a modulus of its place, q bounds its way in a step, in parts of the modulus -/
def cmb (G : Nat → Nat → Nat) (k : Nat) (x y : Nat × Nat) : Nat × Nat :=
  if G k 0 = 103 ∨ G k 0 = 105 then (x.1 * G k 5, max (x.1 * G k 5) (G k 4 * x.2))
  else if G k 0 = 107 then (x.1, max x.1 x.2)
  else if G k 0 = 118 then (x.1 * G k 4, max (x.1 * G k 4) (x.2 + 24 * x.1))
  else if G k 0 = 114 then (x.1 * G k 4, max (x.1 * G k 4) (G k 4 * x.2 + 24 * x.1))
  else (x.1 * y.1 * (G k 4 + G k 5), max (x.1 * y.1 * (G k 4 + G k 5)) (G k 4 * x.2 * y.1 + G k 5 * y.2 * x.1))
section CK9
variable {G : Nat → Nat → Nat} {k : Nat} {x y : Nat × Nat}
theorem cmb_g (h : G k 0 = 103 ∨ G k 0 = 105) : cmb G k x y = (x.1 * G k 5, max (x.1 * G k 5) (G k 4 * x.2)) := if_pos h
theorem cmb_k (h : G k 0 = 107) : cmb G k x y = (x.1, max x.1 x.2) := by
  unfold cmb
  rw [if_neg (show ¬ (G k 0 = 103 ∨ G k 0 = 105) by omega), if_pos h]
theorem cmb_v (h : G k 0 = 118) : cmb G k x y = (x.1 * G k 4, max (x.1 * G k 4) (x.2 + 24 * x.1)) := by
  unfold cmb
  rw [if_neg (show ¬ (G k 0 = 103 ∨ G k 0 = 105) by omega), if_neg (show ¬ G k 0 = 107 by omega), if_pos h]
theorem cmb_r (h : G k 0 = 114) : cmb G k x y = (x.1 * G k 4, max (x.1 * G k 4) (G k 4 * x.2 + 24 * x.1)) := by
  unfold cmb
  rw [if_neg (show ¬ (G k 0 = 103 ∨ G k 0 = 105) by omega), if_neg (show ¬ G k 0 = 107 by omega), if_neg (show ¬ G k 0 = 118 by omega), if_pos h]
theorem cmb_p (h : G k 0 = 112) : cmb G k x y = (x.1 * y.1 * (G k 4 + G k 5), max (x.1 * y.1 * (G k 4 + G k 5)) (G k 4 * x.2 * y.1 + G k 5 * y.2 * x.1)) := by
  unfold cmb
  rw [if_neg (show ¬ (G k 0 = 103 ∨ G k 0 = 105) by omega), if_neg (show ¬ G k 0 = 107 by omega), if_neg (show ¬ G k 0 = 118 by omega), if_neg (show ¬ G k 0 = 114 by omega)]
end CK9
def dQ (G : Nat → Nat → Nat) (nl : Nat) : Nat → Nat → Nat × Nat
  | 0, _ => (1, 1)
  | n + 1, s => match drv G nl s with
    | none => (1, 1)
    | some k => cmb G k (dQ G nl n (G k 1)) (dQ G nl n (G k 2))
def Bn : Nat → Nat
  | 0 => 1
  | n + 1 => 60 * (Bn n * Bn n)
theorem bn_3 : Bn 3 = 2799360000000 := by decide
theorem bn_pos (n : Nat) : 0 < Bn n := by
  induction n with
  | zero => decide
  | succ n ih => exact Nat.mul_pos (by decide) (Nat.mul_pos ih ih)
theorem cmb_pos {G : Nat → Nat → Nat} {k : Nat} {x y : Nat × Nat} (hk : kOK G k) (hx : 0 < x.1) (hy : 0 < y.1) : 0 < (cmb G k x y).1 ∧ (cmb G k x y).1 ≤ (cmb G k x y).2 := by
  unfold cmb
  have hb : 0 < G k 5 ∨ ¬ (G k 0 = 103 ∨ G k 0 = 105) := by
    unfold kOK at hk
    omega
  have ha : 0 < G k 4 ∨ G k 0 = 107 := by
    unfold kOK at hk
    omega
  split
  · exact ⟨Nat.mul_pos hx (by omega), Nat.le_max_left _ _⟩
  · split
    · exact ⟨hx, Nat.le_max_left _ _⟩
    · split
      · exact ⟨Nat.mul_pos hx (by omega), Nat.le_max_left _ _⟩
      · split
        · exact ⟨Nat.mul_pos hx (by omega), Nat.le_max_left _ _⟩
        · exact ⟨Nat.mul_pos (Nat.mul_pos hx hy) (by omega), Nat.le_max_left _ _⟩
theorem cmb_le {G : Nat → Nat → Nat} {k B : Nat} {x y : Nat × Nat} (hk : kOK G k) (hB : 0 < B) (h1 : x.1 ≤ B) (h2 : x.2 ≤ B) (h3 : y.1 ≤ B) (h4 : y.2 ≤ B) : (cmb G k x y).1 ≤ 60 * (B * B) ∧ (cmb G k x y).2 ≤ 60 * (B * B) := by
  have hBB : B ≤ B * B := Nat.le_mul_of_pos_right _ hB
  unfold cmb
  split
  · rename_i hc
    have h5 : G k 4 ≤ 30 ∧ G k 5 ≤ 30 := by
      unfold kOK at hk
      omega
    have e1 : x.1 * G k 5 ≤ B * 30 := Nat.mul_le_mul h1 h5.2
    have e2 : G k 4 * x.2 ≤ 30 * B := Nat.mul_le_mul h5.1 h2
    refine ⟨by dsimp only; omega, Nat.max_le.mpr ⟨by omega, by omega⟩⟩
  · split
    · refine ⟨by dsimp only; omega, Nat.max_le.mpr ⟨by omega, by omega⟩⟩
    · split
      · rename_i hc
        have h5 : G k 4 ≤ 12 := by
          unfold kOK at hk
          omega
        have e1 : x.1 * G k 4 ≤ B * 12 := Nat.mul_le_mul h1 h5
        refine ⟨by dsimp only; omega, Nat.max_le.mpr ⟨by omega, by omega⟩⟩
      · split
        · rename_i hc
          have h5 : G k 4 ≤ 24 := by
            unfold kOK at hk
            omega
          have e1 : x.1 * G k 4 ≤ B * 24 := Nat.mul_le_mul h1 h5
          have e2 : G k 4 * x.2 ≤ 24 * B := Nat.mul_le_mul h5 h2
          refine ⟨by dsimp only; omega, Nat.max_le.mpr ⟨by omega, by omega⟩⟩
        · have h5 : G k 4 ≤ 30 ∧ G k 5 ≤ 30 := by
            unfold kOK at hk
            omega
          have e1 : x.1 * y.1 ≤ B * B := Nat.mul_le_mul h1 h3
          have e2 : x.1 * y.1 * (G k 4 + G k 5) ≤ B * B * 60 := Nat.mul_le_mul e1 (by omega)
          have e3 : G k 4 * x.2 * y.1 ≤ 30 * B * B := Nat.mul_le_mul (Nat.mul_le_mul h5.1 h2) h3
          have e4 : G k 5 * y.2 * x.1 ≤ 30 * B * B := Nat.mul_le_mul (Nat.mul_le_mul h5.2 h4) h1
          have e5 : 30 * B * B = 30 * (B * B) := Nat.mul_assoc _ _ _
          refine ⟨by dsimp only; omega, Nat.max_le.mpr ⟨by omega, by omega⟩⟩
theorem dQ_pos {ns nl : Nat} {G : Nat → Nat → Nat} (hG : GrOK ns nl G) : ∀ n s, 0 < (dQ G nl n s).1 ∧ (dQ G nl n s).1 ≤ (dQ G nl n s).2 ∧ (dQ G nl n s).1 ≤ Bn n ∧ (dQ G nl n s).2 ≤ Bn n := by
  intro n
  induction n with
  | zero => intro s; exact ⟨Nat.one_pos, Nat.le_refl 1, Nat.le_refl 1, Nat.le_refl 1⟩
  | succ n ih =>
    intro s
    have hp := bn_pos (n + 1)
    rw [show dQ G nl (n + 1) s = (match drv G nl s with | none => (1, 1) | some k => cmb G k (dQ G nl n (G k 1)) (dQ G nl n (G k 2))) from rfl]
    cases h : drv G nl s with
    | none => exact ⟨Nat.one_pos, Nat.le_refl 1, hp, hp⟩
    | some k =>
      obtain ⟨hk, -⟩ := drv_some h
      obtain ⟨a1, a2, a3, a4⟩ := ih (G k 1)
      obtain ⟨b1, b2, b3, b4⟩ := ih (G k 2)
      obtain ⟨c1, c2⟩ := cmb_pos (hG.2.2.1 k hk).1 a1 b1
      obtain ⟨d1, d2⟩ := cmb_le (hG.2.2.1 k hk).1 (bn_pos n) a3 a4 b3 b4
      exact ⟨c1, c2, d1, d2⟩
theorem dQ_step {ns nl : Nat} {G : Nat → Nat → Nat} {lv : Nat → Nat} (hG : GrOK ns nl G) (hL : Lev nl G lv) : ∀ n s, lv s ≤ n → dQ G nl n s = dQ G nl (n + 1) s := by
  intro n
  induction n with
  | zero =>
    intro s hs
    have h : drv G nl s = none := by
      cases h : drv G nl s with
      | none => rfl
      | some k =>
        obtain ⟨hk, e⟩ := drv_some h
        have := hL.1 k (G k 1) hk (Or.inl rfl)
        rw [e] at this
        omega
    show (1, 1) = (match drv G nl s with | none => (1, 1) | some k => cmb G k (dQ G nl 0 (G k 1)) (dQ G nl 0 (G k 2)))
    rw [h]
  | succ n ih =>
    intro s hs
    show (match drv G nl s with | none => (1, 1) | some k => cmb G k (dQ G nl n (G k 1)) (dQ G nl n (G k 2))) = (match drv G nl s with | none => (1, 1) | some k => cmb G k (dQ G nl (n + 1) (G k 1)) (dQ G nl (n + 1) (G k 2)))
    cases h : drv G nl s with
    | none => rfl
    | some k =>
      obtain ⟨hk, e⟩ := drv_some h
      have h1 := hL.1 k (G k 1) hk (Or.inl rfl)
      rw [e] at h1
      show cmb G k (dQ G nl n (G k 1)) (dQ G nl n (G k 2)) = cmb G k (dQ G nl (n + 1) (G k 1)) (dQ G nl (n + 1) (G k 2))
      rw [ih (G k 1) (by omega)]
      by_cases hp : G k 0 = 112
      · have h2 := hL.1 k (G k 2) hk (Or.inr ⟨hp, rfl⟩)
        rw [e] at h2
        rw [ih (G k 2) (by omega)]
      · have hc : G k 0 = 103 ∨ G k 0 = 105 ∨ G k 0 = 107 ∨ G k 0 = 118 ∨ G k 0 = 114 := by
          have := (hG.2.2.1 k hk).1
          unfold kOK at this
          omega
        unfold cmb
        rcases hc with hc | hc | hc | hc | hc <;> simp [hc]
/-- the modulus and the bound of a shaft -/
def pm (G : Nat → Nat → Nat) (nl s : Nat) : Nat := 24 * (dQ G nl 3 s).1
def qm (G : Nat → Nat → Nat) (nl s : Nat) : Nat := (dQ G nl 3 s).2
theorem pq_link {ns nl : Nat} {G : Nat → Nat → Nat} {lv : Nat → Nat} (hG : GrOK ns nl G) (hL : Lev nl G lv) {k : Nat} (hk : k < nl) : dQ G nl 3 (G k 3) = cmb G k (dQ G nl 3 (G k 1)) (dQ G nl 3 (G k 2)) := by
  rw [dQ_step hG hL 3 (G k 3) (hL.2 _)]
  show (match drv G nl (G k 3) with | none => (1, 1) | some k => cmb G k (dQ G nl 3 (G k 1)) (dQ G nl 3 (G k 2))) = _
  rw [drv_of hG hk]
