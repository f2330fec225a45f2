/-! A GRAPH WITH ONE MORE LINK: bounds carry over; ways to the new link -/
theorem max_mul_le {a b a' b' m : Nat} (h1 : a * m ≤ a') (h2 : b * m ≤ b') : max a b * m ≤ max a' b' := by
  by_cases c : a ≤ b
  · rw [Nat.max_eq_right c]
    exact Nat.le_trans h2 (Nat.le_max_right _ _)
  · rw [Nat.max_eq_left (by omega)]
    exact Nat.le_trans h1 (Nat.le_max_left _ _)
theorem cmb_ext {G : Nat → Nat → Nat} {k m1 m2 : Nat} {x y x' y' : Nat × Nat} (hk : kOK G k) (h1 : 0 < m1) (h2 : 0 < m2) (a1 : x'.1 = x.1 * m1) (b1 : x.2 * m1 ≤ x'.2) (a2 : y'.1 = y.1 * m2) (b2 : y.2 * m2 ≤ y'.2) :
    ∃ m, 0 < m ∧ (cmb G k x' y').1 = (cmb G k x y).1 * m ∧ (cmb G k x y).2 * m ≤ (cmb G k x' y').2 := by
  have hc : (G k 0 = 103 ∨ G k 0 = 105) ∨ G k 0 = 107 ∨ G k 0 = 118 ∨ G k 0 = 114 ∨ G k 0 = 112 := by
    unfold kOK at hk
    omega
  rcases hc with hc | hc | hc | hc | hc
  · rw [cmb_g hc, cmb_g hc]
    have e : x'.1 * G k 5 = x.1 * G k 5 * m1 := by rw [a1, Nat.mul_right_comm]
    refine ⟨m1, h1, e, max_mul_le (Nat.le_of_eq e.symm) ?_⟩
    show G k 4 * x.2 * m1 ≤ G k 4 * x'.2
    rw [Nat.mul_assoc]
    exact Nat.mul_le_mul_left _ b1
  · rw [cmb_k hc, cmb_k hc]
    exact ⟨m1, h1, a1, max_mul_le (Nat.le_of_eq a1.symm) b1⟩
  · rw [cmb_v hc, cmb_v hc]
    have e : x'.1 * G k 4 = x.1 * G k 4 * m1 := by rw [a1, Nat.mul_right_comm]
    refine ⟨m1, h1, e, max_mul_le (Nat.le_of_eq e.symm) ?_⟩
    show (x.2 + 24 * x.1) * m1 ≤ x'.2 + 24 * x'.1
    rw [Nat.add_mul, a1, Nat.mul_assoc]
    omega
  · rw [cmb_r hc, cmb_r hc]
    have e : x'.1 * G k 4 = x.1 * G k 4 * m1 := by rw [a1, Nat.mul_right_comm]
    refine ⟨m1, h1, e, max_mul_le (Nat.le_of_eq e.symm) ?_⟩
    show (G k 4 * x.2 + 24 * x.1) * m1 ≤ G k 4 * x'.2 + 24 * x'.1
    have h3 : G k 4 * (x.2 * m1) ≤ G k 4 * x'.2 := Nat.mul_le_mul_left _ b1
    rw [Nat.add_mul, a1, Nat.mul_assoc, Nat.mul_assoc]
    omega
  · rw [cmb_p hc, cmb_p hc]
    have e : x'.1 * y'.1 * (G k 4 + G k 5) = x.1 * y.1 * (G k 4 + G k 5) * (m1 * m2) := by
      rw [a1, a2]
      ac_rfl
    refine ⟨m1 * m2, Nat.mul_pos h1 h2, e, max_mul_le (Nat.le_of_eq e.symm) ?_⟩
    show (G k 4 * x.2 * y.1 + G k 5 * y.2 * x.1) * (m1 * m2) ≤ G k 4 * x'.2 * y'.1 + G k 5 * y'.2 * x'.1
    have e1 : G k 4 * x.2 * y.1 * (m1 * m2) = G k 4 * (x.2 * m1) * (y.1 * m2) := by ac_rfl
    have e2 : G k 5 * y.2 * x.1 * (m1 * m2) = G k 5 * (y.2 * m2) * (x.1 * m1) := by ac_rfl
    rw [Nat.add_mul, e1, e2, a1, a2]
    exact Nat.add_le_add (Nat.mul_le_mul_right _ (Nat.mul_le_mul_left _ b1)) (Nat.mul_le_mul_right _ (Nat.mul_le_mul_left _ b2))
section GY
variable {ns nl : Nat} {G : Nat → Nat → Nat} {g : Nat → Nat} {lv : Nat → Nat}
theorem cmb_gx {k : Nat} (hk : k < nl) (x y : Nat × Nat) : cmb (gx G nl g) k x y = cmb G k x y := by
  unfold cmb
  rw [gx_n hk]
theorem dQ_ext (hG : GrOK ns nl G) (hG' : GrOK ns (nl + 1) (gx G nl g)) (hd : drv G nl (g 3) = none) : ∀ n s, ∃ m, 0 < m ∧ (dQ (gx G nl g) (nl + 1) n s).1 = (dQ G nl n s).1 * m ∧ (dQ G nl n s).2 * m ≤ (dQ (gx G nl g) (nl + 1) n s).2 := by
  intro n
  induction n with
  | zero => exact fun s => ⟨1, by decide, rfl, Nat.le_refl _⟩
  | succ n ih =>
    intro s
    by_cases c : s = g 3
    · have e1 : dQ G nl (n + 1) s = (1, 1) := by
        show (match drv G nl s with | none => (1, 1) | some k => cmb G k (dQ G nl n (G k 1)) (dQ G nl n (G k 2))) = (1, 1)
        rw [c, hd]
      obtain ⟨p1, p2, -, -⟩ := dQ_pos hG' (n + 1) s
      rw [e1]
      exact ⟨_, p1, (Nat.one_mul _).symm, by rw [Nat.one_mul]; exact p2⟩
    · have e1 : dQ (gx G nl g) (nl + 1) (n + 1) s = (match drv G nl s with | none => (1, 1) | some k => cmb (gx G nl g) k (dQ (gx G nl g) (nl + 1) n (gx G nl g k 1)) (dQ (gx G nl g) (nl + 1) n (gx G nl g k 2))) := by
        show (match drv (gx G nl g) (nl + 1) s with | none => (1, 1) | some k => cmb (gx G nl g) k (dQ (gx G nl g) (nl + 1) n (gx G nl g k 1)) (dQ (gx G nl g) (nl + 1) n (gx G nl g k 2))) = _
        rw [drv_ext hG hd, if_neg c]
      have e2 : dQ G nl (n + 1) s = (match drv G nl s with | none => (1, 1) | some k => cmb G k (dQ G nl n (G k 1)) (dQ G nl n (G k 2))) := rfl
      rw [e1, e2]
      cases ed : drv G nl s with
      | none => exact ⟨1, by decide, rfl, Nat.le_refl _⟩
      | some k =>
        have hk := (drv_some ed).1
        obtain ⟨m1, a1, a2, a3⟩ := ih (G k 1)
        obtain ⟨m2, b1, b2, b3⟩ := ih (G k 2)
        show ∃ m, 0 < m ∧ (cmb (gx G nl g) k (dQ (gx G nl g) (nl + 1) n (gx G nl g k 1)) (dQ (gx G nl g) (nl + 1) n (gx G nl g k 2))).1 = (cmb G k (dQ G nl n (G k 1)) (dQ G nl n (G k 2))).1 * m ∧ (cmb G k (dQ G nl n (G k 1)) (dQ G nl n (G k 2))).2 * m ≤ (cmb (gx G nl g) k (dQ (gx G nl g) (nl + 1) n (gx G nl g k 1)) (dQ (gx G nl g) (nl + 1) n (gx G nl g k 2))).2
        rw [cmb_gx hk, gx_n hk]
        exact cmb_ext (hG.2.2.1 k hk).1 a1 b1 a2 a3 b2 b3
theorem bdP_ext {n : Nat} {P : Nat → Rat} (hG : GrOK ns nl G) (hG' : GrOK ns (nl + 1) (gx G nl g)) (hd : drv G nl (g 3) = none) (h : BdP G nl n P) : BdP (gx G nl g) (nl + 1) n P := by
  intro s
  obtain ⟨m, m0, m1, m2⟩ := dQ_ext hG hG' hd 3 s
  have h1 := bd_scale m (h s)
  unfold pm qm at h1 ⊢
  rw [m1, ← Nat.mul_assoc]
  refine bd_le h1 ?_
  rw [Nat.mul_assoc]
  exact Nat.mul_le_mul_left _ m2
theorem bdW_ext {n : Nat} {W : Nat → Rat} (hG : GrOK ns nl G) (hG' : GrOK ns (nl + 1) (gx G nl g)) (hd : drv G nl (g 3) = none) (h : BdW G nl n W) (h0 : W nl = 0) : BdW (gx G nl g) (nl + 1) n W := by
  intro k hk
  by_cases c : k = nl
  · rw [c, h0]
    exact bd_le (bd_0 _) (Nat.zero_le _)
  · have hk' : k < nl := by omega
    have h1 := h k hk'
    obtain ⟨m, m0, m1, m2⟩ := dQ_ext hG hG' hd 3 (G k 1)
    obtain ⟨l, l0, l1, l2⟩ := dQ_ext hG hG' hd 3 (G k 2)
    unfold wmo wbo at h1 ⊢
    rw [gx_n hk']
    by_cases hp : G k 0 = 112
    · rw [if_pos hp, if_pos hp] at h1 ⊢
      have h2 := bd_scale (m * l) h1
      rw [m1, l1]
      have e : 24 * ((dQ G nl 3 (G k 1)).1 * m * ((dQ G nl 3 (G k 2)).1 * l)) = 24 * ((dQ G nl 3 (G k 1)).1 * (dQ G nl 3 (G k 2)).1) * (m * l) := by ac_rfl
      rw [e]
      refine bd_le h2 ?_
      rw [Nat.mul_assoc]
      refine Nat.mul_le_mul_left _ ?_
      have e1 : (dQ G nl 3 (G k 1)).2 * (dQ G nl 3 (G k 2)).1 * (m * l) = (dQ G nl 3 (G k 1)).2 * m * ((dQ G nl 3 (G k 2)).1 * l) := by ac_rfl
      have e2 : (dQ G nl 3 (G k 2)).2 * (dQ G nl 3 (G k 1)).1 * (m * l) = (dQ G nl 3 (G k 2)).2 * l * ((dQ G nl 3 (G k 1)).1 * m) := by ac_rfl
      rw [Nat.add_mul, e1, e2]
      exact Nat.add_le_add (Nat.mul_le_mul_right _ m2) (Nat.mul_le_mul_right _ l2)
    · rw [if_neg hp, if_neg hp] at h1 ⊢
      have h2 := bd_scale m h1
      rw [m1]
      have e : 24 * ((dQ G nl 3 (G k 1)).1 * m * 1) = 24 * ((dQ G nl 3 (G k 1)).1 * 1) * m := by ac_rfl
      rw [e]
      refine bd_le h2 ?_
      rw [Nat.mul_assoc]
      exact Nat.mul_le_mul_left _ m2
end GY
