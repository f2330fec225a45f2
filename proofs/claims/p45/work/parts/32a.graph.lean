/-! THE LAW'S THREE LINKS -/
/-- a row of links as the law makes them: kinds, a and b of each -/
def G45 (κ a b : Nat → Nat) : Nat → Nat → Nat := gx (gx (gx (fun _ _ => 0) 0 (lrow (κ 0) 0 0 1 (a 0) (b 0))) 1 (lrow (κ 1) 1 0 2 (a 1) (b 1))) 2 (lrow 112 1 3 4 (a 2) (b 2))
/-- what is known of it -/
def GH (κ a b : Nat → Nat) (G : Nat → Nat → Nat) : Prop :=
  (∀ k, k < 2 → G k 0 = κ k) ∧ (∀ k, k < 3 → G k 4 = a k ∧ G k 5 = b k) ∧ (G 0 1 = 0 ∧ G 1 1 = 1 ∧ G 2 1 = 1) ∧ (G 0 3 = 1 ∧ G 1 3 = 2 ∧ G 2 3 = 4) ∧ G 2 0 = 112 ∧ G 2 2 = 3
theorem gh_45 {κ a b : Nat → Nat} : GH κ a b (G45 κ a b) := by
  refine ⟨fun k hk => ?_, fun k hk => ?_, ⟨rfl, rfl, rfl⟩, ⟨rfl, rfl, rfl⟩, rfl, rfl⟩
  · rcases (show k = 0 ∨ k = 1 by omega) with rfl | rfl <;> rfl
  · rcases (show k = 0 ∨ k = 1 ∨ k = 2 by omega) with rfl | rfl | rfl <;> exact ⟨rfl, rfl⟩
/-- the numbers of a link that the law may choose -/
def KAB (κ a b : Nat) : Prop := ((κ = 103 ∨ κ = 105) ∧ 6 ≤ a ∧ a ≤ 30 ∧ 6 ≤ b ∧ b ≤ 30) ∨ (κ = 118 ∧ 3 ≤ a ∧ a ≤ 12 ∧ b = 0) ∨ (κ = 114 ∧ 3 ≤ a ∧ a ≤ 24 ∧ b = 0) ∨ (κ = 107 ∧ a = 0 ∧ b = 0)
theorem kab_sm {κ a b : Nat} (h : KAB κ a b) : κ < 200 ∧ a < 200 ∧ b < 200 ∧ κ ≠ 112 := by
  unfold KAB at h
  omega
theorem kab_mn {κ a b : Nat} (h : KAB κ a b) : mnP (nI κ) (nI a) (nI b) := by
  have ta : ∀ x, x < 200 → (nI x).toInt = x := fun x hx => nI_toInt (by omega)
  obtain ⟨s1, s2, s3, -⟩ := kab_sm h
  unfold mnP
  rw [ta a s2, ta b s3]
  rcases h with ⟨h1 | h1, h2⟩ | ⟨h1, h2⟩ | ⟨h1, h2⟩ | ⟨h1, h2⟩
  · exact Or.inl ⟨Or.inl (by rw [h1]; rfl), by omega, by omega⟩
  · exact Or.inl ⟨Or.inr (by rw [h1]; rfl), by omega, by omega⟩
  · exact Or.inr (Or.inl ⟨by rw [h1]; rfl, by omega, by rw [h2.2.2]; rfl⟩)
  · exact Or.inr (Or.inr (Or.inl ⟨by rw [h1]; rfl, by omega, by rw [h2.2.2]; rfl⟩))
  · exact Or.inr (Or.inr (Or.inr ⟨by rw [h1]; rfl, by rw [h2.1]; rfl, by rw [h2.2]; rfl⟩))
section GR45
variable {κ a b : Nat → Nat} {G : Nat → Nat → Nat} {lv : Nat → Nat}
theorem gh_drv (hH : GH κ a b G) (hG : GrOK 5 3 G) : drv G 3 0 = none ∧ drv G 3 1 = some 0 ∧ drv G 3 2 = some 1 ∧ drv G 3 3 = none ∧ drv G 3 4 = some 2 := by
  obtain ⟨-, -, -, ⟨t0, t1, t2⟩, -⟩ := hH
  have h0 := drv_of hG (k := 0) (by decide)
  have h1 := drv_of hG (k := 1) (by decide)
  have h2 := drv_of hG (k := 2) (by decide)
  rw [t0] at h0
  rw [t1] at h1
  rw [t2] at h2
  have hn : ∀ s, s ≠ 1 → s ≠ 2 → s ≠ 4 → drv G 3 s = none := fun s a1 a2 a4 => drv_none.mpr (fun k hk => by
    rcases (show k = 0 ∨ k = 1 ∨ k = 2 by omega) with rfl | rfl | rfl
    · rw [t0]; exact fun e => a1 e.symm
    · rw [t1]; exact fun e => a2 e.symm
    · rw [t2]; exact fun e => a4 e.symm)
  exact ⟨hn 0 (by decide) (by decide) (by decide), h0, h1, hn 3 (by decide) (by decide) (by decide), h2⟩
theorem cmb_sm {k : Nat} {x y : Nat × Nat} (hk : kOK G k) : (G k 0 ≠ 112 → (cmb G k x y).1 ≤ 30 * x.1) ∧ (cmb G k x y).1 ≤ 60 * (x.1 * y.1) + 30 * x.1 := by
  have h5 : G k 4 ≤ 30 ∧ G k 5 ≤ 30 := by
    unfold kOK at hk
    omega
  have m4 : x.1 * G k 4 ≤ x.1 * 30 := Nat.mul_le_mul_left _ h5.1
  have m5 : x.1 * G k 5 ≤ x.1 * 30 := Nat.mul_le_mul_left _ h5.2
  have m9 : x.1 * y.1 * (G k 4 + G k 5) ≤ x.1 * y.1 * 60 := Nat.mul_le_mul_left _ (by omega)
  unfold cmb
  split
  · exact ⟨fun _ => by dsimp only; omega, by dsimp only; omega⟩
  · split
    · exact ⟨fun _ => by dsimp only; omega, by dsimp only; omega⟩
    · split
      · exact ⟨fun _ => by dsimp only; omega, by dsimp only; omega⟩
      · split
        · exact ⟨fun _ => by dsimp only; omega, by dsimp only; omega⟩
        · rename_i c1 c2 c3 c4
          refine ⟨fun q => ?_, by dsimp only; omega⟩
          unfold kOK at hk
          omega
theorem dq_s {n s : Nat} : dQ G 3 (n + 1) s = (match drv G 3 s with | none => (1, 1) | some k => cmb G k (dQ G 3 n (G k 1)) (dQ G 3 n (G k 2))) := rfl
/-- what the law may choose -/
def HK (κ a b : Nat → Nat) : Prop := (∀ k, k < 2 → KAB (κ k) (a k) (b k)) ∧ 6 ≤ a 2 ∧ a 2 ≤ 30 ∧ 6 ≤ b 2 ∧ b 2 ≤ 30
theorem dq_sm (hH : GH κ a b G) (hG : GrOK 5 3 G) (hK : HK κ a b) : (∀ s, (dQ G 3 3 s).1 ≤ 2700) ∧ dQ G 3 3 0 = (1, 1) ∧ (dQ G 3 3 1).1 ≤ 30 ∧ dQ G 3 3 3 = (1, 1) := by
  obtain ⟨d0, d1, d2, d3, d4⟩ := gh_drv hH hG
  obtain ⟨hk, -, ⟨f0, f1, f2⟩, ⟨t0, t1, t2⟩, p0, p2⟩ := id hH
  have ok := fun k (h : k < 3) => (hG.2.2.1 k h).1
  have np : ∀ k, k < 2 → G k 0 ≠ 112 := fun k h => by
    rw [hk k h]
    exact (kab_sm (hK.1 k h)).2.2.2
  have z0 : ∀ n, dQ G 3 n 0 = (1, 1) := fun n => by
    cases n with
    | zero => rfl
    | succ n => rw [dq_s, d0]
  have z3 : ∀ n, dQ G 3 n 3 = (1, 1) := fun n => by
    cases n with
    | zero => rfl
    | succ n => rw [dq_s, d3]
  have b1 : ∀ n, (dQ G 3 n 1).1 ≤ 30 := fun n => by
    cases n with
    | zero => exact (by decide : (1 : Nat) ≤ 30)
    | succ n =>
      rw [dq_s, d1]
      have h := (cmb_sm (x := dQ G 3 n (G 0 1)) (y := dQ G 3 n (G 0 2)) (ok 0 (by decide))).1 (np 0 (by decide))
      rw [f0, z0] at h
      show (cmb G 0 (dQ G 3 n (G 0 1)) (dQ G 3 n (G 0 2))).1 ≤ 30
      rw [f0, z0]
      exact h
  have b2 : ∀ n, (dQ G 3 n 2).1 ≤ 900 := fun n => by
    cases n with
    | zero => exact (by decide : (1 : Nat) ≤ 900)
    | succ n =>
      rw [dq_s, d2]
      have h := (cmb_sm (x := dQ G 3 n (G 1 1)) (y := dQ G 3 n (G 1 2)) (ok 1 (by decide))).1 (np 1 (by decide))
      rw [f1] at h
      show (cmb G 1 (dQ G 3 n (G 1 1)) (dQ G 3 n (G 1 2))).1 ≤ 900
      rw [f1]
      have := b1 n
      omega
  have b4 : ∀ n, (dQ G 3 n 4).1 ≤ 2700 := fun n => by
    cases n with
    | zero => exact (by decide : (1 : Nat) ≤ 2700)
    | succ n =>
      rw [dq_s, d4]
      have h := (cmb_sm (x := dQ G 3 n (G 2 1)) (y := dQ G 3 n (G 2 2)) (ok 2 (by decide))).2
      rw [f2, p2, z3] at h
      show (cmb G 2 (dQ G 3 n (G 2 1)) (dQ G 3 n (G 2 2))).1 ≤ 2700
      rw [f2, p2, z3]
      have h1 := b1 n
      have h2 : (dQ G 3 n 1).1 * ((1, 1) : Nat × Nat).1 = (dQ G 3 n 1).1 := Nat.mul_one _
      rw [h2] at h
      omega
  refine ⟨fun s => ?_, z0 3, b1 3, z3 3⟩
  by_cases e1 : s = 1
  · rw [e1]; exact Nat.le_trans (b1 3) (by decide)
  · by_cases e2 : s = 2
    · rw [e2]; exact Nat.le_trans (b2 3) (by decide)
    · by_cases e4 : s = 4
      · rw [e4]; exact b4 3
      · have hn : drv G 3 s = none := drv_none.mpr (fun k hk => by
          rcases (show k = 0 ∨ k = 1 ∨ k = 2 by omega) with rfl | rfl | rfl
          · rw [t0]; exact fun e => e1 e.symm
          · rw [t1]; exact fun e => e2 e.symm
          · rw [t2]; exact fun e => e4 e.symm)
        rw [dq_s, hn]
        exact (by decide : (1 : Nat) ≤ 2700)
/-- places, ways and wear stay small -/
theorem sz_P (hH : GH κ a b G) (hG : GrOK 5 3 G) (hK : HK κ a b) {n : Nat} {P : Nat → Rat} (h : BdP G 3 n P) (hn : n ≤ 300) (s : Nat) : Sz (P s) := by
  have h1 := (dq_sm hH hG hK).1 s
  have h2 := dQ_ra hG 3 s
  have h3 := (dQ_pos hG 3 s).1
  have h4 : Rnn 3 = 869 := by decide
  rw [h4] at h2
  refine sz_bd (h s) ?_ ?_ ?_
  · unfold pm
    omega
  · unfold pm
    omega
  · unfold qm
    have : n * (dQ G 3 3 s).2 ≤ 300 * (869 * 2700) := Nat.mul_le_mul hn (by omega)
    omega
theorem sz_T (hH : GH κ a b G) (hG : GrOK 5 3 G) (hK : HK κ a b) {s : Nat} {t : Rat} (h : Bd (pm G 3 s) (qm G 3 s) t) : Sz t := by
  have h1 := (dq_sm hH hG hK).1 s
  have h2 := dQ_ra hG 3 s
  have h3 := (dQ_pos hG 3 s).1
  have h4 : Rnn 3 = 869 := by decide
  rw [h4] at h2
  refine sz_bd h ?_ ?_ ?_
  · unfold pm
    omega
  · unfold pm
    omega
  · unfold qm
    omega
theorem w_sm (hH : GH κ a b G) (hG : GrOK 5 3 G) (hK : HK κ a b) {k : Nat} (hk : k < 3) : 0 < wmo G 3 k ∧ wmo G 3 k ≤ 1000 ∧ wbo G 3 k ≤ 60000 := by
  obtain ⟨-, q0, q1, q3⟩ := dq_sm hH hG hK
  obtain ⟨hκ, -, ⟨f0, f1, f2⟩, -, p0, p2⟩ := id hH
  have np : ∀ k, k < 2 → G k 0 ≠ 112 := fun k h => by
    rw [hκ k h]
    exact (kab_sm (hK.1 k h)).2.2.2
  have h2 := dQ_ra hG 3 1
  have h3 := (dQ_pos hG 3 1).1
  have h4 : Rnn 3 = 869 := by decide
  rw [h4] at h2
  unfold wmo wbo
  rcases (show k = 0 ∨ k = 1 ∨ k = 2 by omega) with rfl | rfl | rfl
  · rw [if_neg (np 0 (by decide)), if_neg (np 0 (by decide)), f0, q0]
    decide
  · rw [if_neg (np 1 (by decide)), if_neg (np 1 (by decide)), f1]
    omega
  · rw [if_pos p0, if_pos p0, f2, p2, q3]
    dsimp only
    omega
theorem sz_W (hH : GH κ a b G) (hG : GrOK 5 3 G) (hK : HK κ a b) {n : Nat} {W : Nat → Rat} (h : BdW G 3 n W) (hn : n ≤ 300) {k : Nat} (hk : k < 3) : Sz (W k) := by
  obtain ⟨w1, w2, w3⟩ := w_sm hH hG hK hk
  refine sz_bd (h k hk) w1 (by omega) ?_
  have : n * wbo G 3 k ≤ 300 * 60000 := Nat.mul_le_mul hn w3
  omega
/-- the wear of the planets, half way through a step -/
theorem sz_W1 (hH : GH κ a b G) (hG : GrOK 5 3 G) (hL : Lev 3 G lv) (hK : HK κ a b) {n : Nat} {W tn : Nat → Rat} (h : BdW G 3 n W) (htb : ∀ s, Bd (pm G 3 s) (qm G 3 s) (tn s)) (hn : n ≤ 300) {k : Nat} (hk : k < 3) : Sz (W k + aq (tn (G k 1))) := by
  obtain ⟨w1, w2, w3⟩ := w_sm hH hG hK hk
  obtain ⟨B1, B2, b1, -, b3⟩ := w_src hG hL hk htb
  refine sz_bd (bd_add (h k hk) (bd_abs b1)) w1 (by omega) ?_
  have : n * wbo G 3 k ≤ 300 * 60000 := Nat.mul_le_mul hn w3
  omega
theorem sz_aq {q : Rat} (h : Sz q) : Sz (aq q) := by
  obtain ⟨x1, x2⟩ := aq_num q
  unfold Sz
  rw [x1, x2]
  exact ⟨h.1, by have := h.2; omega⟩
/-! one step, link by link -/
/-- the same steps for the same numbers -/
theorem step_one {ns nl : Nat} {lv : Nat → Nat} (hG : GrOK ns nl G) (hL : Lev nl G lv) {act : Nat → Bool} {P tn tn2 : Nat → Rat} {mk mk' mk2 : Nat → Int} {inp : Nat} {wy : Int} (h : StepEq G nl act P mk inp wy tn mk') (h2 : StepEq G nl act P mk inp wy tn2 mk2) : tn2 = tn ∧ mk2 = mk' := by
  have key : ∀ d s, lv s ≤ d → tn2 s = tn s := by
    intro d
    induction d with
    | zero =>
      intro s hs
      by_cases e : s = inp
      · rw [e, h.1, h2.1]
      · by_cases c : ∃ k, k < nl ∧ act k = true ∧ G k 3 = s
        · obtain ⟨k, k1, k2, k3⟩ := c
          have := hL.1 k (G k 1) k1 (Or.inl rfl)
          rw [k3] at this
          omega
        · have hn : ∀ k, k < nl → act k = true → G k 3 ≠ s := fun k k1 k2 k3 => c ⟨k, k1, k2, k3⟩
          rw [h.2.1 s e hn, h2.2.1 s e hn]
    | succ d ih =>
      intro s hs
      by_cases e : s = inp
      · rw [e, h.1, h2.1]
      · by_cases c : ∃ k, k < nl ∧ act k = true ∧ G k 3 = s
        · obtain ⟨k, k1, k2, k3⟩ := c
          have l1 := hL.1 k (G k 1) k1 (Or.inl rfl)
          have hk := (hG.2.2.1 k k1).1
          have e1 := (h.2.2.1 k k1 k2).2.1
          have e2 := (h2.2.2.1 k k1 k2).2.1
          rw [k3] at e1 e2 l1
          rw [e1, e2]
          refine ctr_congr hk (ih _ (by omega)) (fun hp => ih _ ?_)
          have l2 := hL.1 k (G k 2) k1 (Or.inr ⟨hp, rfl⟩)
          rw [k3] at l2
          omega
        · have hn : ∀ k, k < nl → act k = true → G k 3 ≠ s := fun k k1 k2 k3 => c ⟨k, k1, k2, k3⟩
          rw [h.2.1 s e hn, h2.2.1 s e hn]
  have et : tn2 = tn := funext fun s => key _ s (Nat.le_refl _)
  refine ⟨et, funext fun k => ?_⟩
  by_cases c : k < nl ∧ act k = true
  · rw [(h.2.2.1 k c.1 c.2).2.2, (h2.2.2.1 k c.1 c.2).2.2, et]
  · rw [h.2.2.2 k c, h2.2.2.2 k c]
theorem sq_one {ns nl : Nat} {lv : Nat → Nat} (hG : GrOK ns nl G) (hL : Lev nl G lv) {act : Nat → Bool} {inp : Nat} {wy : Int} {N : Nat} {Ps Ps2 tns tns2 : Nat → Nat → Rat} {mks mks2 : Nat → Nat → Int} (h : Sq G nl act inp wy N Ps tns mks) (h2 : Sq G nl act inp wy N Ps2 tns2 mks2) (e0 : Ps2 0 = Ps 0) (m0 : mks2 0 = mks 0) : ∀ i, i ≤ N → Ps2 i = Ps i ∧ mks2 i = mks i ∧ (i < N → tns2 i = tns i) := by
  intro i
  induction i with
  | zero =>
    intro _
    refine ⟨e0, m0, fun hN => ?_⟩
    obtain ⟨a1, a2⟩ := h 0 hN
    obtain ⟨b1, b2⟩ := h2 0 hN
    rw [e0, m0] at b1
    exact (step_one hG hL a1 b1).1
  | succ i ih =>
    intro hi
    obtain ⟨i1, i2, i3⟩ := ih (by omega)
    obtain ⟨a1, a2⟩ := h i (by omega)
    obtain ⟨b1, b2⟩ := h2 i (by omega)
    have it := i3 (by omega)
    have eP : Ps2 (i + 1) = Ps (i + 1) := by rw [a2, b2, i1, it]
    rw [i1, i2] at b1
    have eM := (step_one hG hL a1 b1).2
    refine ⟨eP, eM, fun hN => ?_⟩
    obtain ⟨a3, -⟩ := h (i + 1) hN
    obtain ⟨b3, -⟩ := h2 (i + 1) hN
    rw [eP, eM] at b3
    exact (step_one hG hL a3 b3).1
theorem wsq_one {act : Nat → Bool} {tns tns2 : Nat → Nat → Rat} {W : Nat → Rat} : ∀ N, (∀ i, i < N → tns2 i = tns i) → Wsq G act tns2 W N = Wsq G act tns W N
  | 0, _ => rfl
  | N + 1, h => by
    show wnx G act (tns2 N) (Wsq G act tns2 W N) = wnx G act (tns N) (Wsq G act tns W N)
    rw [wsq_one N (fun i hi => h i (by omega)), h N (by omega)]
end GR45
