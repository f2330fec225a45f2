/-! A GRAPH WITH ONE MORE LINK: bounds carry over; ways to the new link -/
theorem max_mul_le {a b a' b' m : Nat} (h1 : a * m ≤ a') (h2 : b * m ≤ b') : max a b * m ≤ max a' b' := by
  by_cases c : a ≤ b
  · rw [Nat.max_eq_right c]
    exact Nat.le_trans h2 (Nat.le_max_right _ _)
  · rw [Nat.max_eq_left (by omega)]
    exact Nat.le_trans h1 (Nat.le_max_left _ _)
theorem cmb_ext {G : Nat → Nat → Nat} {k m1 m2 : Nat} {x y x' y' : Nat × Nat} (hk : kOK G k) (h1 : 0 < m1) (h2 : 0 < m2) (a1 : x'.1 = x.1 * m1) (b1 : x.2 * m1 ≤ x'.2) (a2 : y'.1 = y.1 * m2) (b2 : y.2 * m2 ≤ y'.2) :
    ∃ m, 0 < m ∧ (cmb G k x' y').1 = (cmb G k x y).1 * m ∧ (cmb G k x y).2 * m ≤ (cmb G k x' y').2 := by
  have hc : (G k 0 = 103 ∨ G k 0 = 105) ∨ G k 0 = 107 ∨ G k 0 = 118 ∨ G k 0 = 114 ∨ G k 0 = 112 := by
    unfold kOK at hk
    omega
  rcases hc with hc | hc | hc | hc | hc
  · rw [cmb_g hc, cmb_g hc]
    have e : x'.1 * G k 5 = x.1 * G k 5 * m1 := by rw [a1, Nat.mul_right_comm]
    refine ⟨m1, h1, e, max_mul_le (Nat.le_of_eq e.symm) ?_⟩
    show G k 4 * x.2 * m1 ≤ G k 4 * x'.2
    rw [Nat.mul_assoc]
    exact Nat.mul_le_mul_left _ b1
  · rw [cmb_k hc, cmb_k hc]
    exact ⟨m1, h1, a1, max_mul_le (Nat.le_of_eq a1.symm) b1⟩
  · rw [cmb_v hc, cmb_v hc]
    have e : x'.1 * G k 4 = x.1 * G k 4 * m1 := by rw [a1, Nat.mul_right_comm]
    refine ⟨m1, h1, e, max_mul_le (Nat.le_of_eq e.symm) ?_⟩
    show (x.2 + 24 * x.1) * m1 ≤ x'.2 + 24 * x'.1
    rw [Nat.add_mul, a1, Nat.mul_assoc]
    omega
  · rw [cmb_r hc, cmb_r hc]
    have e : x'.1 * G k 4 = x.1 * G k 4 * m1 := by rw [a1, Nat.mul_right_comm]
    refine ⟨m1, h1, e, max_mul_le (Nat.le_of_eq e.symm) ?_⟩
    show (G k 4 * x.2 + 24 * x.1) * m1 ≤ G k 4 * x'.2 + 24 * x'.1
    have h3 : G k 4 * (x.2 * m1) ≤ G k 4 * x'.2 := Nat.mul_le_mul_left _ b1
    rw [Nat.add_mul, a1, Nat.mul_assoc, Nat.mul_assoc]
    omega
  · rw [cmb_p hc, cmb_p hc]
    have e : x'.1 * y'.1 * (G k 4 + G k 5) = x.1 * y.1 * (G k 4 + G k 5) * (m1 * m2) := by
      rw [a1, a2]
      ac_rfl
    refine ⟨m1 * m2, Nat.mul_pos h1 h2, e, max_mul_le (Nat.le_of_eq e.symm) ?_⟩
    show (G k 4 * x.2 * y.1 + G k 5 * y.2 * x.1) * (m1 * m2) ≤ G k 4 * x'.2 * y'.1 + G k 5 * y'.2 * x'.1
    have e1 : G k 4 * x.2 * y.1 * (m1 * m2) = G k 4 * (x.2 * m1) * (y.1 * m2) := by ac_rfl
    have e2 : G k 5 * y.2 * x.1 * (m1 * m2) = G k 5 * (y.2 * m2) * (x.1 * m1) := by ac_rfl
    rw [Nat.add_mul, e1, e2, a1, a2]
    exact Nat.add_le_add (Nat.mul_le_mul_right _ (Nat.mul_le_mul_left _ b1)) (Nat.mul_le_mul_right _ (Nat.mul_le_mul_left _ b2))
section GY
variable {ns nl : Nat} {G : Nat → Nat → Nat} {g : Nat → Nat} {lv : Nat → Nat}
theorem cmb_gx {k : Nat} (hk : k < nl) (x y : Nat × Nat) : cmb (gx G nl g) k x y = cmb G k x y := by
  unfold cmb
  rw [gx_n hk]
theorem dQ_ext (hG : GrOK ns nl G) (hG' : GrOK ns (nl + 1) (gx G nl g)) (hd : drv G nl (g 3) = none) : ∀ n s, ∃ m, 0 < m ∧ (dQ (gx G nl g) (nl + 1) n s).1 = (dQ G nl n s).1 * m ∧ (dQ G nl n s).2 * m ≤ (dQ (gx G nl g) (nl + 1) n s).2 := by
  intro n
  induction n with
  | zero => exact fun s => ⟨1, by decide, rfl, Nat.le_refl _⟩
  | succ n ih =>
    intro s
    by_cases c : s = g 3
    · have e1 : dQ G nl (n + 1) s = (1, 1) := by
        show (match drv G nl s with | none => (1, 1) | some k => cmb G k (dQ G nl n (G k 1)) (dQ G nl n (G k 2))) = (1, 1)
        rw [c, hd]
      obtain ⟨p1, p2, -, -⟩ := dQ_pos hG' (n + 1) s
      rw [e1]
      exact ⟨_, p1, (Nat.one_mul _).symm, by rw [Nat.one_mul]; exact p2⟩
    · have e1 : dQ (gx G nl g) (nl + 1) (n + 1) s = (match drv G nl s with | none => (1, 1) | some k => cmb (gx G nl g) k (dQ (gx G nl g) (nl + 1) n (gx G nl g k 1)) (dQ (gx G nl g) (nl + 1) n (gx G nl g k 2))) := by
        show (match drv (gx G nl g) (nl + 1) s with | none => (1, 1) | some k => cmb (gx G nl g) k (dQ (gx G nl g) (nl + 1) n (gx G nl g k 1)) (dQ (gx G nl g) (nl + 1) n (gx G nl g k 2))) = _
        rw [drv_ext hG hd, if_neg c]
      have e2 : dQ G nl (n + 1) s = (match drv G nl s with | none => (1, 1) | some k => cmb G k (dQ G nl n (G k 1)) (dQ G nl n (G k 2))) := rfl
      rw [e1, e2]
      cases ed : drv G nl s with
      | none => exact ⟨1, by decide, rfl, Nat.le_refl _⟩
      | some k =>
        have hk := (drv_some ed).1
        obtain ⟨m1, a1, a2, a3⟩ := ih (G k 1)
        obtain ⟨m2, b1, b2, b3⟩ := ih (G k 2)
        show ∃ m, 0 < m ∧ (cmb (gx G nl g) k (dQ (gx G nl g) (nl + 1) n (gx G nl g k 1)) (dQ (gx G nl g) (nl + 1) n (gx G nl g k 2))).1 = (cmb G k (dQ G nl n (G k 1)) (dQ G nl n (G k 2))).1 * m ∧ (cmb G k (dQ G nl n (G k 1)) (dQ G nl n (G k 2))).2 * m ≤ (cmb (gx G nl g) k (dQ (gx G nl g) (nl + 1) n (gx G nl g k 1)) (dQ (gx G nl g) (nl + 1) n (gx G nl g k 2))).2
        rw [cmb_gx hk, gx_n hk]
        exact cmb_ext (hG.2.2.1 k hk).1 a1 b1 a2 a3 b2 b3
theorem bdP_ext {n : Nat} {P : Nat → Rat} (hG : GrOK ns nl G) (hG' : GrOK ns (nl + 1) (gx G nl g)) (hd : drv G nl (g 3) = none) (h : BdP G nl n P) : BdP (gx G nl g) (nl + 1) n P := by
  intro s
  obtain ⟨m, m0, m1, m2⟩ := dQ_ext hG hG' hd 3 s
  have h1 := bd_scale m (h s)
  unfold pm qm at h1 ⊢
  rw [m1, ← Nat.mul_assoc]
  refine bd_le h1 ?_
  rw [Nat.mul_assoc]
  exact Nat.mul_le_mul_left _ m2
theorem bdW_ext {n : Nat} {W : Nat → Rat} (hG : GrOK ns nl G) (hG' : GrOK ns (nl + 1) (gx G nl g)) (hd : drv G nl (g 3) = none) (h : BdW G nl n W) (h0 : W nl = 0) : BdW (gx G nl g) (nl + 1) n W := by
  intro k hk
  by_cases c : k = nl
  · rw [c, h0]
    exact bd_le (bd_0 _) (Nat.zero_le _)
  · have hk' : k < nl := by omega
    have h1 := h k hk'
    obtain ⟨m, m0, m1, m2⟩ := dQ_ext hG hG' hd 3 (G k 1)
    obtain ⟨l, l0, l1, l2⟩ := dQ_ext hG hG' hd 3 (G k 2)
    unfold wmo wbo at h1 ⊢
    rw [gx_n hk']
    by_cases hp : G k 0 = 112
    · rw [if_pos hp, if_pos hp] at h1 ⊢
      have h2 := bd_scale (m * l) h1
      rw [m1, l1]
      have e : 24 * ((dQ G nl 3 (G k 1)).1 * m * ((dQ G nl 3 (G k 2)).1 * l)) = 24 * ((dQ G nl 3 (G k 1)).1 * (dQ G nl 3 (G k 2)).1) * (m * l) := by ac_rfl
      rw [e]
      refine bd_le h2 ?_
      rw [Nat.mul_assoc]
      refine Nat.mul_le_mul_left _ ?_
      have e1 : (dQ G nl 3 (G k 1)).2 * (dQ G nl 3 (G k 2)).1 * (m * l) = (dQ G nl 3 (G k 1)).2 * m * ((dQ G nl 3 (G k 2)).1 * l) := by ac_rfl
      have e2 : (dQ G nl 3 (G k 2)).2 * (dQ G nl 3 (G k 1)).1 * (m * l) = (dQ G nl 3 (G k 2)).2 * l * ((dQ G nl 3 (G k 1)).1 * m) := by ac_rfl
      rw [Nat.add_mul, e1, e2]
      exact Nat.add_le_add (Nat.mul_le_mul_right _ m2) (Nat.mul_le_mul_right _ l2)
    · rw [if_neg hp, if_neg hp] at h1 ⊢
      have h2 := bd_scale m h1
      rw [m1]
      have e : 24 * ((dQ G nl 3 (G k 1)).1 * m * 1) = 24 * ((dQ G nl 3 (G k 1)).1 * 1) * m := by ac_rfl
      rw [e]
      refine bd_le h2 ?_
      rw [Nat.mul_assoc]
      exact Nat.mul_le_mul_left _ m2
theorem bh_self {x : Nat} : bh G nl x x = true := by
  unfold bh
  rw [bhF_succ G nl x 19 x, decide_eq_true rfl, Bool.true_or]
theorem bh_up {x s k : Nat} (hG : GrOK ns nl G) (hL : Lev nl G lv) (hk : k < nl) (hs : src G k s) (h : bh G nl x s = true) : bh G nl x (G k 3) = true := by
  rw [bh_link hG hL.1 (fun s => by have := hL.2 s; omega) hk]
  rcases hs with e | ⟨hp, e⟩
  · rw [← e, h, Bool.true_or, Bool.or_true]
  · rw [← e, h, decide_eq_true hp, Bool.true_and, Bool.or_true, Bool.or_true]
/-- a way forward is a way back -/
theorem lead_iff (hG : GrOK ns nl G) (hL : Lev nl G lv) (x : Nat) : ∀ n y, lv y ≤ n → (bh G nl x y = true ↔ x = y ∨ ∃ k, k < nl ∧ src G k x ∧ bh G nl (G k 3) y = true) := by
  intro n
  induction n with
  | zero =>
    intro y hy
    have e := lev0 hL.1 (show lv y = 0 by omega)
    rw [bh_none e]
    constructor
    · intro h
      exact Or.inl (of_decide_eq_true h).symm
    · rintro (h | ⟨k, hk, _, hb⟩)
      · exact decide_eq_true h.symm
      · rw [bh_none e] at hb
        exact absurd (of_decide_eq_true hb).symm (drv_none.mp e k hk)
  | succ n ih =>
    intro y hy
    cases e : drv G nl y with
    | none =>
      rw [bh_none e]
      constructor
      · intro h
        exact Or.inl (of_decide_eq_true h).symm
      · rintro (h | ⟨k, hk, _, hb⟩)
        · exact decide_eq_true h.symm
        · rw [bh_none e] at hb
          exact absurd (of_decide_eq_true hb).symm (drv_none.mp e k hk)
    | some k0 =>
      obtain ⟨h0, rfl⟩ := drv_some e
      have l1 := hL.1 k0 (G k0 1) h0 (Or.inl rfl)
      have i1 := ih (G k0 1) (by omega)
      constructor
      · intro h
        rw [bh_link hG hL.1 (fun s => by have := hL.2 s; omega) h0] at h
        simp only [Bool.or_eq_true, Bool.and_eq_true, decide_eq_true_eq] at h
        rcases h with h | h | ⟨hp, h⟩
        · exact Or.inl h.symm
        · rcases i1.mp h with q | ⟨k, hk, hs, hb⟩
          · exact Or.inr ⟨k0, h0, Or.inl q, bh_self⟩
          · exact Or.inr ⟨k, hk, hs, bh_up hG hL h0 (Or.inl rfl) hb⟩
        · have l2 := hL.1 k0 (G k0 2) h0 (Or.inr ⟨hp, rfl⟩)
          rcases (ih (G k0 2) (by omega)).mp h with q | ⟨k, hk, hs, hb⟩
          · exact Or.inr ⟨k0, h0, Or.inr ⟨hp, q⟩, bh_self⟩
          · exact Or.inr ⟨k, hk, hs, bh_up hG hL h0 (Or.inr ⟨hp, rfl⟩) hb⟩
      · rintro (h | ⟨k, hk, hs, hb⟩)
        · rw [h]
          exact bh_self
        · rw [bh_link hG hL.1 (fun s => by have := hL.2 s; omega) h0] at hb
          simp only [Bool.or_eq_true, Bool.and_eq_true, decide_eq_true_eq] at hb
          rcases hb with q | q | ⟨hp, q⟩
          · have := hG.2.2.2 k0 k h0 hk q
            subst this
            rcases hs with e1 | ⟨hp, e1⟩
            · exact bh_up hG hL h0 (Or.inl rfl) (by rw [e1]; exact bh_self)
            · exact bh_up hG hL h0 (Or.inr ⟨hp, rfl⟩) (by rw [e1]; exact bh_self)
          · exact bh_up hG hL h0 (Or.inl rfl) (i1.mpr (Or.inr ⟨k, hk, hs, q⟩))
          · have l2 := hL.1 k0 (G k0 2) h0 (Or.inr ⟨hp, rfl⟩)
            exact bh_up hG hL h0 (Or.inr ⟨hp, rfl⟩) ((ih (G k0 2) (by omega)).mpr (Or.inr ⟨k, hk, hs, q⟩))
/-- levels of the grown graph, if no way leads back -/
theorem rk_ext (hG : GrOK ns nl G) (hL : Lev nl G lv) (h1 : bh G nl (g 3) (g 1) = false) (h2 : g 0 = 112 → bh G nl (g 3) (g 2) = false) : (∀ k s, k < nl + 1 → src (gx G nl g) k s → lv s + (if bh G nl (g 3) s = true then 4 else 0) < lv (gx G nl g k 3) + (if bh G nl (g 3) (gx G nl g k 3) = true then 4 else 0)) ∧ ∀ s, lv s + (if bh G nl (g 3) s = true then 4 else 0) ≤ 7 := by
  refine ⟨fun k s hk hs => ?_, fun s => ?_⟩
  · by_cases c : k = nl
    · rw [c] at hs ⊢
      rw [gx_s, if_pos bh_self]
      have hf : bh G nl (g 3) s = false := by
        unfold src at hs
        rw [gx_s] at hs
        rcases hs with e | ⟨hp, e⟩
        · rw [e]
          exact h1
        · rw [e]
          exact h2 hp
      rw [hf, if_neg (by decide)]
      have := hL.2 s
      omega
    · have hk' : k < nl := by omega
      unfold src at hs
      rw [gx_n hk'] at hs ⊢
      have hl := hL.1 k s hk' hs
      by_cases cb : bh G nl (g 3) s = true
      · rw [if_pos cb, if_pos (bh_up hG hL hk' hs cb)]
        omega
      · rw [if_neg cb]
        omega
  · have := hL.2 s
    by_cases cb : bh G nl (g 3) s = true
    · rw [if_pos cb]
      omega
    · rw [if_neg cb]
      omega
/-- and with levels no way leads back -/
theorem no_lead {lv' : Nat → Nat} (hG : GrOK ns nl G) (hL : Lev nl G lv) (hL' : Lev (nl + 1) (gx G nl g) lv') : bh G nl (g 3) (g 1) = false ∧ (g 0 = 112 → bh G nl (g 3) (g 2) = false) := by
  have key : ∀ n s, lv s ≤ n → bh G nl (g 3) s = true → lv' (g 3) ≤ lv' s := by
    intro n
    induction n with
    | zero =>
      intro s hs h
      rw [bh_none (lev0 hL.1 (by omega))] at h
      rw [of_decide_eq_true h]
      exact Nat.le_refl _
    | succ n ih =>
      intro s hs h
      cases e : drv G nl s with
      | none =>
        rw [bh_none e] at h
        rw [of_decide_eq_true h]
        exact Nat.le_refl _
      | some k =>
        obtain ⟨hk, rfl⟩ := drv_some e
        have up : ∀ s, src G k s → lv s < lv (G k 3) ∧ lv' s < lv' (G k 3) := fun s hs => by
          refine ⟨hL.1 k s hk hs, ?_⟩
          have := hL'.1 k s (by omega) (by unfold src; rw [gx_n hk]; exact hs)
          rw [gx_n hk] at this
          exact this
        rw [bh_link hG hL.1 (fun s => by have := hL.2 s; omega) hk] at h
        simp only [Bool.or_eq_true, Bool.and_eq_true, decide_eq_true_eq] at h
        rcases h with h | h | ⟨hp, h⟩
        · rw [h]
          exact Nat.le_refl _
        · obtain ⟨u1, u2⟩ := up (G k 1) (Or.inl rfl)
          have := ih (G k 1) (by omega) h
          omega
        · obtain ⟨u1, u2⟩ := up (G k 2) (Or.inr ⟨hp, rfl⟩)
          have := ih (G k 2) (by omega) h
          omega
  have nw : ∀ s, src (gx G nl g) nl s → lv' s < lv' (g 3) := fun s hs => by
    have := hL'.1 nl s (by omega) hs
    rw [gx_s] at this
    exact this
  refine ⟨?_, fun hp => ?_⟩
  · cases e : bh G nl (g 3) (g 1) with
    | false => rfl
    | true =>
      have h1 := key (lv (g 1)) (g 1) (Nat.le_refl _) e
      have h2 := nw (g 1) (Or.inl (by rw [gx_s]))
      omega
  · cases e : bh G nl (g 3) (g 2) with
    | false => rfl
    | true =>
      have h1 := key (lv (g 2)) (g 2) (Nat.le_refl _) e
      have h2 := nw (g 2) (Or.inr ⟨by rw [gx_s]; exact hp, by rw [gx_s]⟩)
      omega
end GY
