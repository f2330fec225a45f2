/-! HOW THE LAW BEGINS: from the constructor to the first turning. Written by wip/p45/gen/own36b.py -/
theorem lev45 {G : Nat → Nat → Nat} {nl : Nat} (h : ∀ k s, k < nl → src G k s → lv45 s < lv45 (G k 3)) : ∀ s, dpF G nl 4 s ≤ 3 := fun s => (fit_lev (lv := lv45) ⟨h, lv45_le⟩ 4 s (by decide)).2
theorem za_0 {S : Hp} {A : Nat → Nat} (h : Rep A (fun _ => S.T 0) (fun _ => []) 0 0 0 S D9) : ZA A (fun _ => S.T 0) (fun _ => []) 0 0 0 0 Zg Zr Zr Zi Zb [] S D9 := by
  refine ⟨h, ⟨rfl, rfl, rfl, rfl, ⟨Nat.zero_le _, fun k hk => absurd hk (Nat.not_lt_zero k), fun j k e => by simp at e⟩⟩, ⟨⟨⟨by decide, by decide, fun k hk => absurd hk (Nat.not_lt_zero k), fun k k' hk => absurd hk (Nat.not_lt_zero k)⟩, fun k s hk => absurd hk (Nat.not_lt_zero k), fun s => by rw [dp_0]; decide⟩, ⟨fun k hk => absurd hk (Nat.not_lt_zero k), fun s => ⟨0, by rw [Rat.zero_mul]; rfl, Nat.zero_le _⟩, fun k hk => absurd hk (Nat.not_lt_zero k), fun k hk => absurd hk (Nat.not_lt_zero k)⟩, ⟨fun _ _ => ⟨rfl, rfl⟩, fun _ _ => rfl⟩, by decide⟩, ⟨rfl, fun k hk => absurd hk (Nat.not_lt_zero k), fun s hs => d9_5 s hs⟩, fun k hk => absurd hk (Nat.not_lt_zero k), ⟨fun i hi => (d9_r i (by omega)).2 hi, fun i hi => (d9_r i hi).1, fun k hk => absurd hk (Nat.not_lt_zero k), fun k _ => ?_⟩, fun k _ => d9_AI (by decide), Or.inl rfl⟩
  rw [show onL 0 k = false from decide_eq_false (Nat.not_lt_zero k)]
  exact d9_AI (by decide)
section BH45
variable {A E : Nat → Nat} {ls : Nat → List Nat} {n : Nat} {G : Nat → Nat → Nat} {ol : List Nat} {S : Hp} {D : Dt} {x0 : Nat → Int32} {L9 : Nat} {v2 : Int32} {ns nl : Nat} {P W : Nat → Rat} {mk : Nat → Int} {aact : Nat → Bool}
/-- the arrays over, under, wornOver, wornUnder, most; then the turnings -/
theorem p_b608 {κ a b : Nat → Nat} (h : ZA A E ls 5 3 5 0 G Zr Zr Zi Zb ol S D) (hL : L9 ≤ 260) (hD : LD45 κ a b D) (hH : GH κ a b G) (hK : HK κ a b) : wL_law_b608 x0 L9 S (A 0) (A 500) (A 501) (A 502) (A 503) (A 504) 1 1 := by
  unfold wL_law_b608
  have c0 : ((0 : Int32).toNatClampNeg) = 0 := cl_nI (i := 0) (by decide)
  have c1 : ((1 : Int32).toNatClampNeg) = 1 := cl_nI (i := 1) (by decide)
  have c2 : ((2 : Int32).toNatClampNeg) = 2 := cl_nI (i := 2) (by decide)
  have c3 : ((3 : Int32).toNatClampNeg) = 3 := cl_nI (i := 3) (by decide)
  have c4 : ((4 : Int32).toNatClampNeg) = 4 := cl_nI (i := 4) (by decide)
  intro a1 S2 f1 e2
  obtain ⟨A1, D1, h1, sa1, q1, -, z1, o1⟩ := h.born (nc := 5) (k := 22) (m := 5) (by decide) f1 (by decide) (by decide)
  rw [← e2] at h1
  intro a3 S4 f3 e4
  obtain ⟨A2, D2, h2, sa2, q2, -, -, o2⟩ := h1.born (nc := 6) (k := 22) (m := 5) (by decide) f3 (by decide) (by decide)
  rw [← e4] at h2
  have q2' : A2 506 = a3 := q2
  rw [← q2']
  refine ⟨h2.in (r := 506) (i := 0) (by decide) (by decide) rfl (by decide) (by decide), fun S6 e6 => ?_⟩
  rw [c0] at e6
  have h6 := h2.setAJ (r := 506) 0 1 (by decide) (by decide)
  rw [← e6] at h6
  refine ⟨h6.in (r := 506) (i := 1) (by decide) (by decide) rfl (by decide) (by decide), fun S8 e8 => ?_⟩
  rw [c1] at e8
  have h8 := h6.setAJ (r := 506) 1 1 (by decide) (by decide)
  rw [← e8] at h8
  refine ⟨h8.in (r := 506) (i := 2) (by decide) (by decide) rfl (by decide) (by decide), fun S10 e10 => ?_⟩
  rw [c2] at e10
  have h10 := h8.setAJ (r := 506) 2 1 (by decide) (by decide)
  rw [← e10] at h10
  refine ⟨h10.in (r := 506) (i := 3) (by decide) (by decide) rfl (by decide) (by decide), fun S12 e12 => ?_⟩
  rw [c3] at e12
  have h12 := h10.setAJ (r := 506) 3 1 (by decide) (by decide)
  rw [← e12] at h12
  refine ⟨h12.in (r := 506) (i := 4) (by decide) (by decide) rfl (by decide) (by decide), fun S14 e14 => ?_⟩
  rw [c4] at e14
  have h14 := h12.setAJ (r := 506) 4 1 (by decide) (by decide)
  rw [← e14] at h14
  have n506 : ∀ s, s < 5 → (((((D2.setAJ 506 0 1).setAJ 506 1 1).setAJ 506 2 1).setAJ 506 3 1).setAJ 506 4 1).AJ 506 s = 1 := fun s hs => by
    rcases (show s = 4 ∨ s = 3 ∨ s = 2 ∨ s = 1 ∨ s = 0 by omega) with rfl | rfl | rfl | rfl | rfl
    · exact dtAJ_s
    · exact (dtAJ_n (by omega)).trans dtAJ_s
    · exact (dtAJ_n (by omega)).trans ((dtAJ_n (by omega)).trans dtAJ_s)
    · exact (dtAJ_n (by omega)).trans ((dtAJ_n (by omega)).trans ((dtAJ_n (by omega)).trans dtAJ_s))
    · exact (dtAJ_n (by omega)).trans ((dtAJ_n (by omega)).trans ((dtAJ_n (by omega)).trans ((dtAJ_n (by omega)).trans dtAJ_s)))
  have m506 : ∀ r, r ≠ 506 → (((((D2.setAJ 506 0 1).setAJ 506 1 1).setAJ 506 2 1).setAJ 506 3 1).setAJ 506 4 1).AJ r = D2.AJ r := fun r hr => (dJ_row hr).trans ((dJ_row hr).trans ((dJ_row hr).trans ((dJ_row hr).trans (dJ_row hr))))
  have p506 : (((((D2.setAJ 506 0 1).setAJ 506 1 1).setAJ 506 2 1).setAJ 506 3 1).setAJ 506 4 1).AI = D2.AI := rfl
  generalize ((((D2.setAJ 506 0 1).setAJ 506 1 1).setAJ 506 2 1).setAJ 506 3 1).setAJ 506 4 1 = D14 at *
  intro a15 S16 f15 e16
  obtain ⟨A3, D3, h3, sa3, q3, -, z3, o3⟩ := h14.born (nc := 7) (k := 22) (m := 3) (by decide) f15 (by decide) (by decide)
  rw [← e16] at h3
  intro a17 S18 f17 e18
  obtain ⟨A4, D4, h4, sa4, q4, -, -, o4⟩ := h3.born (nc := 8) (k := 22) (m := 3) (by decide) f17 (by decide) (by decide)
  rw [← e18] at h4
  have q4' : A4 508 = a17 := q4
  rw [← q4']
  refine ⟨h4.in (r := 508) (i := 0) (by decide) (by decide) rfl (by decide) (by decide), fun S20 e20 => ?_⟩
  rw [c0] at e20
  have h20 := h4.setAJ (r := 508) 0 1 (by decide) (by decide)
  rw [← e20] at h20
  refine ⟨h20.in (r := 508) (i := 1) (by decide) (by decide) rfl (by decide) (by decide), fun S22 e22 => ?_⟩
  rw [c1] at e22
  have h22 := h20.setAJ (r := 508) 1 1 (by decide) (by decide)
  rw [← e22] at h22
  refine ⟨h22.in (r := 508) (i := 2) (by decide) (by decide) rfl (by decide) (by decide), fun S24 e24 => ?_⟩
  rw [c2] at e24
  have h24 := h22.setAJ (r := 508) 2 1 (by decide) (by decide)
  rw [← e24] at h24
  have n508 : ∀ s, s < 3 → (((D4.setAJ 508 0 1).setAJ 508 1 1).setAJ 508 2 1).AJ 508 s = 1 := fun s hs => by
    rcases (show s = 2 ∨ s = 1 ∨ s = 0 by omega) with rfl | rfl | rfl
    · exact dtAJ_s
    · exact (dtAJ_n (by omega)).trans dtAJ_s
    · exact (dtAJ_n (by omega)).trans ((dtAJ_n (by omega)).trans dtAJ_s)
  have m508 : ∀ r, r ≠ 508 → (((D4.setAJ 508 0 1).setAJ 508 1 1).setAJ 508 2 1).AJ r = D4.AJ r := fun r hr => (dJ_row hr).trans ((dJ_row hr).trans (dJ_row hr))
  have p508 : (((D4.setAJ 508 0 1).setAJ 508 1 1).setAJ 508 2 1).AI = D4.AI := rfl
  generalize ((D4.setAJ 508 0 1).setAJ 508 1 1).setAJ 508 2 1 = D24 at *
  intro a25 S26 f25 e26
  obtain ⟨A5, D5, h5, sa5, q5, -, z5, o5⟩ := h24.born (nc := 9) (k := 22) (m := 2) (by decide) f25 (by decide) (by decide)
  rw [← e26] at h5
  have h5 : ZA A5 E ls 5 3 10 0 G Zr Zr Zi Zb ol S26 D5 := h5
  have lt : ∀ {r : Nat}, al 3 5 0 r → r < 505 := fun {r} hr => by
    rcases hr with hr | hr | hr | hr
    · have := sdr_lt hr
      omega
    · omega
    · omega
    · omega
  have u5 : ∀ r, 500 ≤ r → r < 509 → A5 r = A4 r := fun r x1 x2 => sa5 r x2 (Or.inr (Or.inr (Or.inl ⟨x1, x2⟩)))
  have u4 : ∀ r, 500 ≤ r → r < 508 → A4 r = A3 r := fun r x1 x2 => sa4 r x2 (Or.inr (Or.inr (Or.inl ⟨x1, x2⟩)))
  have u3 : ∀ r, 500 ≤ r → r < 507 → A3 r = A2 r := fun r x1 x2 => sa3 r x2 (Or.inr (Or.inr (Or.inl ⟨x1, x2⟩)))
  have u2 : ∀ r, 500 ≤ r → r < 506 → A2 r = A1 r := fun r x1 x2 => sa2 r x2 (Or.inr (Or.inr (Or.inl ⟨x1, x2⟩)))
  have u1 : ∀ r, al 3 5 0 r → A5 r = A r := fun r hr => by
    have hl := lt hr
    have up : ∀ nc, 5 ≤ nc → al 3 nc 0 r := fun nc hc => al_sub (Nat.le_refl _) hc (Nat.le_refl _) hr
    rw [sa5 r (by omega) (up 9 (by decide)), sa4 r (by omega) (up 8 (by decide)), sa3 r (by omega) (up 7 (by decide)), sa2 r (by omega) (up 6 (by decide)), sa1 r (by omega) hr]
  have x5 : a1 = A5 505 := by
    rw [u5 505 (by decide) (by decide), u4 505 (by decide) (by decide), u3 505 (by decide) (by decide), u2 505 (by decide) (by decide)]
    exact q1.symm
  have x6 : A2 506 = A5 506 := by
    rw [u5 506 (by decide) (by decide), u4 506 (by decide) (by decide), u3 506 (by decide) (by decide)]
  have x7 : a15 = A5 507 := by
    rw [u5 507 (by decide) (by decide), u4 507 (by decide) (by decide)]
    exact q3.symm
  have x8 : A4 508 = A5 508 := (u5 508 (by decide) (by decide)).symm
  have x9 : a25 = A5 509 := q5.symm
  have sa : SamA 3 5 A A5 := fun r hr => u1 r hr
  obtain ⟨b0, b1, b2, b3, b4, b5⟩ := addr5 sa
  rw [x5, x6, x7, x8, x9, ← b0, ← b1, ← b2, ← b3, ← b4, ← b5, and11]
  have rI : ∀ r, r < 505 → D5.AI r = D.AI r := fun r hr => by
    rw [(o5 r (by omega)).1, p508, (o4 r (by omega)).1, (o3 r (by omega)).1, p506, (o2 r (by omega)).1, (o1 r (by omega)).1]
  have g5 : ∀ s, D5.AJ 505 s = 0 := fun s => by
    rw [(o5 505 (by decide)).2, m508 505 (by decide), (o4 505 (by decide)).2, (o3 505 (by decide)).2, m506 505 (by decide), (o2 505 (by decide)).2]
    exact z1 s
  have g6 : ∀ s, s < 5 → D5.AJ 506 s = 1 := fun s hs => by
    rw [(o5 506 (by decide)).2, m508 506 (by decide), (o4 506 (by decide)).2, (o3 506 (by decide)).2]
    exact n506 s hs
  have g7 : ∀ s, D5.AJ 507 s = 0 := fun s => by
    rw [(o5 507 (by decide)).2, m508 507 (by decide), (o4 507 (by decide)).2]
    exact z3 s
  have g8 : ∀ s, s < 3 → D5.AJ 508 s = 1 := fun s hs => by
    rw [(o5 508 (by decide)).2]
    exact n508 s hs
  have hD5 : LD45 κ a b D5 := hD.cg (fun r _ h2 => rI r h2)
  refine it14_c (fun i S1 v => v = nI i ∧ TS45 A5 E ls κ a b G ol i S1) 5 ?_ ?_ 5 0 rfl 6 (by decide) S26 0 ⟨rfl, A5, 0, Zr, Zr, Zi, Zb, D5, h5, fun _ _ => rfl, by decide, hD5, fun s hs => ⟨(g5 s).trans rfl, (g6 s hs).trans rfl⟩, fun l hl => ⟨(g7 l).trans rfl, (g8 l hl).trans rfl⟩, fun j _ => z5 j⟩
  · rintro i hi S1 _ k9 ⟨rfl, A6, n, P, W, mk, aact, D6, h6, sa6, hn, hD6, fX, fW, fm⟩ hk9
    obtain ⟨d0, d1, d2, d3, d4, d5, d6, d7, d8, d9, d10⟩ := addr10 sa6
    rw [← d0, ← d1, ← d2, ← d3, ← d4, ← d5, ← d6, ← d7, ← d8, ← d9, ← d10]
    refine p_turning h6 hL hi hn hD6 hH hK fX fW fm (fun S2 ts => ?_)
    obtain ⟨A7, n7, P7, W7, mk7, aact7, D7, h7, sa7, r7⟩ := ts
    rw [d0, d1, d2, d3, d4, d5, d6, d7, d8, d9, d10, ← nI_succ]
    exact hk9 _ _ ⟨rfl, A7, n7, P7, W7, mk7, aact7, D7, h7, sa6.tr sa7, r7⟩
  · rintro S1 _ k9 ⟨rfl, A6, n, P, W, mk, aact, D6, h6, sa6, hn, hD6, fX, fW, fm⟩
    obtain ⟨d0, d1, d2, d3, d4, d5, d6, d7, d8, d9, d10⟩ := addr10 sa6
    rw [← d0, ← d1, ← d2, ← d3, ← d4, ← d5, ← d6, ← d7, ← d8, ← d9, ← d10]
    exact p_end h6 hH
/-- the planets, and what is refused -/
theorem p_plan {k132 : KD45} {κ0 a0 b0 κ1 a1 b1 : Nat} (h : ZA A E ls 5 2 5 0 (gx (gx Zg 0 (lrow κ0 0 0 1 a0 b0)) 1 (lrow κ1 1 0 2 a1 b1)) Zr Zr Zi Zb ol S D) (hL : L9 ≤ 260) (hF : FT D) (k0 : KAB κ0 a0 b0) (k1 : KAB κ1 a1 b1)
    (e0 : D.AI 500 0 = nI κ0 ∧ D.AI 501 0 = nI a0 ∧ D.AI 502 0 = nI b0) (e1 : D.AI 500 1 = nI κ1 ∧ D.AI 501 1 = nI a1 ∧ D.AI 502 1 = nI b1) : wL_law_b132 x0 L9 k132 S (A 0) 1 (A 500) (A 501) (A 502) (A 503) (A 504) (nI 2) := by
  have c2 : ((2 : Int32).toNatClampNeg) = 2 := cl_nI (i := 2) (by decide)
  unfold wL_law_b132
  refine if_p (nI_le (a := 2) (b := 2) (Nat.le_refl _) (by decide)) (p_in (i := 6) (m := 25) rfl rfl hL (by decide) (by decide) (by decide) (fun x hx => ⟨h.is (by decide) (by decide) rfl, h.in (r := 501) (i := 2) (m := 4) (by decide) (by decide) rfl (by decide) (by decide), fun S6 s6 => ?_⟩))
  have ex : (6 : Int32) + nI x = nI (6 + x) := nI_add 6 x
  rw [c2, ex] at s6
  have h6 := h.setAI (r := 501) 2 (nI (6 + x)) (by decide) (by decide)
  rw [← s6] at h6
  refine p_in (i := 7) (m := 25) rfl rfl hL (by decide) (by decide) (by decide) (fun y hy => ⟨h6.is (by decide) (by decide) rfl, h6.in (r := 502) (i := 2) (m := 4) (by decide) (by decide) rfl (by decide) (by decide), fun S11 s11 => ?_⟩)
  have ey : (6 : Int32) + nI y = nI (6 + y) := nI_add 6 y
  rw [c2, ey] at s11
  have h11 := h6.setAI (r := 502) 2 (nI (6 + y)) (by decide) (by decide)
  rw [← s11] at h11
  have w500 : ((D.setAI 501 2 (nI (6 + x))).setAI 502 2 (nI (6 + y))).AI 500 = D.AI 500 := (dI_row (by decide)).trans (dI_row (by decide))
  have w503 : ((D.setAI 501 2 (nI (6 + x))).setAI 502 2 (nI (6 + y))).AI 503 = D.AI 503 := (dI_row (by decide)).trans (dI_row (by decide))
  have w504 : ((D.setAI 501 2 (nI (6 + x))).setAI 502 2 (nI (6 + y))).AI 504 = D.AI 504 := (dI_row (by decide)).trans (dI_row (by decide))
  have w501 : ((D.setAI 501 2 (nI (6 + x))).setAI 502 2 (nI (6 + y))).AI 501 2 = nI (6 + x) := (dtAI_n (by omega)).trans dtAI_s
  have w502 : ((D.setAI 501 2 (nI (6 + x))).setAI 502 2 (nI (6 + y))).AI 502 2 = nI (6 + y) := dtAI_s
  have v501 : ∀ i, i ≠ 2 → ((D.setAI 501 2 (nI (6 + x))).setAI 502 2 (nI (6 + y))).AI 501 i = D.AI 501 i := fun i hi => (dtAI_n (by omega)).trans (dtAI_n (by omega))
  have v502 : ∀ i, i ≠ 2 → ((D.setAI 501 2 (nI (6 + x))).setAI 502 2 (nI (6 + y))).AI 502 i = D.AI 502 i := fun i hi => (dtAI_n (by omega)).trans (dtAI_n (by omega))
  generalize (D.setAI 501 2 (nI (6 + x))).setAI 502 2 (nI (6 + y)) = D2 at *
  have hG2 := h11.2.2.1.1.1
  have g1 : gx (gx Zg 0 (lrow κ0 0 0 1 a0 b0)) 1 (lrow κ1 1 0 2 a1 b1) 0 3 = 1 := rfl
  have g2 : gx (gx Zg 0 (lrow κ0 0 0 1 a0 b0)) 1 (lrow κ1 1 0 2 a1 b1) 1 3 = 2 := rfl
  have hd4 : drv (gx (gx Zg 0 (lrow κ0 0 0 1 a0 b0)) 1 (lrow κ1 1 0 2 a1 b1)) 2 4 = none := drv_none.mpr (fun k hk => by
    rcases (show k = 0 ∨ k = 1 by omega) with rfl | rfl
    · rw [g1]; decide
    · rw [g2]; decide)
  have cyc : ¬ ∀ s, s < 5 → dpF (gx (gx (gx Zg 0 (lrow κ0 0 0 1 a0 b0)) 1 (lrow κ1 1 0 2 a1 b1)) 2 (lrow 107 2 0 0 0 0)) 3 4 s ≤ 3 := fun q => by
    have q2 := q 2 (by decide)
    have n0 : κ0 ≠ 112 := (kab_sm k0).2.2.2
    have n1 : κ1 ≠ 112 := (kab_sm k1).2.2.2
    have dv : ∀ s k, k < 3 → (gx (gx (gx Zg 0 (lrow κ0 0 0 1 a0 b0)) 1 (lrow κ1 1 0 2 a1 b1)) 2 (lrow 107 2 0 0 0 0)) k 3 = s → drv (gx (gx (gx Zg 0 (lrow κ0 0 0 1 a0 b0)) 1 (lrow κ1 1 0 2 a1 b1)) 2 (lrow 107 2 0 0 0 0)) 3 s = some k := fun s k hk e => drv_u hk e (fun k' hk' e' => by
      rcases (show k = 0 ∨ k = 1 ∨ k = 2 by omega) with rfl | rfl | rfl <;> rcases (show k' = 0 ∨ k' = 1 ∨ k' = 2 by omega) with rfl | rfl | rfl
      · rfl
      · have t1 : (1 : Nat) = s := e
        have t2 : (2 : Nat) = s := e'
        omega
      · have t1 : (1 : Nat) = s := e
        have t2 : (0 : Nat) = s := e'
        omega
      · have t1 : (2 : Nat) = s := e
        have t2 : (1 : Nat) = s := e'
        omega
      · rfl
      · have t1 : (2 : Nat) = s := e
        have t2 : (0 : Nat) = s := e'
        omega
      · have t1 : (0 : Nat) = s := e
        have t2 : (1 : Nat) = s := e'
        omega
      · have t1 : (0 : Nat) = s := e
        have t2 : (2 : Nat) = s := e'
        omega
      · rfl)
    generalize hGe : gx (gx (gx Zg 0 (lrow κ0 0 0 1 a0 b0)) 1 (lrow κ1 1 0 2 a1 b1)) 2 (lrow 107 2 0 0 0 0) = H at *
    have t0 : H 0 0 = κ0 ∧ H 0 1 = 0 ∧ H 0 3 = 1 := by rw [← hGe]; exact ⟨rfl, rfl, rfl⟩
    have t1 : H 1 0 = κ1 ∧ H 1 1 = 1 ∧ H 1 3 = 2 := by rw [← hGe]; exact ⟨rfl, rfl, rfl⟩
    have t2 : H 2 0 = 107 ∧ H 2 1 = 2 ∧ H 2 3 = 0 := by rw [← hGe]; exact ⟨rfl, rfl, rfl⟩
    have st : ∀ n s k, k < 3 → H k 3 = s → H k 0 ≠ 112 → dpF H 3 (n + 1) s = 1 + dpF H 3 n (H k 1) := fun n s k hk e np => by
      rw [dpF_succ, dv s k hk e]
      show 1 + (if H k 0 = 112 then max (dpF H 3 n (H k 1)) (dpF H 3 n (H k 2)) else dpF H 3 n (H k 1)) = _
      rw [if_neg np]
    rw [st 3 2 1 (by decide) t1.2.2 (by rw [t1.1]; exact n1), t1.2.1, st 2 1 0 (by decide) t0.2.2 (by rw [t0.1]; exact n0), t0.2.1, st 1 0 2 (by decide) t2.2.2 (by rw [t2.1]; decide), t2.2.1, st 0 2 1 (by decide) t1.2.2 (by rw [t1.1]; exact n1)] at q2
    omega
  have hlv : ∀ s, s < 5 → dpF (gx (gx (gx Zg 0 (lrow κ0 0 0 1 a0 b0)) 1 (lrow κ1 1 0 2 a1 b1)) 2 (lrow 112 1 3 4 (6 + x) (6 + y))) (2 + 1) 4 s ≤ 3 := fun s _ => lev45 (fun k s hk hs => by
    rcases (show k = 0 ∨ k = 1 ∨ k = 2 by omega) with rfl | rfl | rfl
    · rcases hs with hs | ⟨hs, -⟩
      · rw [show s = 0 from hs]
        exact (by decide : lv45 0 < lv45 1)
      · exact absurd (show κ0 = 112 from hs) (kab_sm k0).2.2.2
    · rcases hs with hs | ⟨hs, -⟩
      · rw [show s = 1 from hs]
        exact (by decide : lv45 1 < lv45 2)
      · exact absurd (show κ1 = 112 from hs) (kab_sm k1).2.2.2
    · rcases hs with hs | ⟨-, hs⟩
      · rw [show s = 1 from hs]
        exact (by decide : lv45 1 < lv45 4)
      · rw [show s = 3 from hs]
        exact (by decide : lv45 3 < lv45 4)) s
  refine o_link2 (f := 0) (t := 4) h11 (by decide) (by decide) (by unfold mnP; decide) (fi_p rfl ?_)
  refine o_link2 (f := 0) (t := 4) h11 (by decide) (by decide) (by unfold mnP; decide) (fi_p rfl ?_)
  refine o_link2 (f := 0) (t := 4) h11 (by decide) (by decide) (by unfold mnP; decide) (fi_p rfl ?_)
  refine o_link3 (κ := 107) (f := 2) (t := 0) (a := 0) (b := 0) h11 (by decide) (by decide) (Or.inr (Or.inr (Or.inr ⟨rfl, rfl, rfl⟩))) (by decide) (Or.inr (Or.inr cyc)) (fun S21 A1 D21 h21 sa1 kp1 => fi_p rfl ?_)
  obtain ⟨b0', b1', b2', b3', b4', b5'⟩ := addr5 sa1
  rw [← b0', ← b1', ← b2', ← b3', ← b4', ← b5']
  refine o_link1 h21 (by unfold inR; decide) (fi_p rfl ?_)
  refine o_planets3 (f := 1) (s := 1) (t := 4) (a := 6) (b := 6) h21 (by decide) (by decide) (by decide) (by decide) (by decide) (Or.inl rfl) (fun S27 A2 D27 h27 sa2 kp2 => fi_p rfl ?_)
  obtain ⟨c0', c1', c2', c3', c4', c5'⟩ := addr5 sa2
  rw [← c0', ← c1', ← c2', ← c3', ← c4', ← c5']
  have kp := kp1.tr kp2
  have ra : S27.AI (A2 501) ((2 : Int32).toNatClampNeg) = nI (6 + x) := h27.I (r := 501) (i := 2) (by decide) (by decide) (by decide) (by rw [kp.1 501 (by decide)]; exact w501)
  have rb : S27.AI (A2 502) ((2 : Int32).toNatClampNeg) = nI (6 + y) := h27.I (r := 502) (i := 2) (by decide) (by decide) (by decide) (by rw [kp.1 502 (by decide)]; exact w502)
  rw [ra, rb]
  refine ⟨h27.is (by decide) (by decide) rfl, h27.in (r := 501) (i := 2) (m := 4) (by decide) (by decide) rfl (by decide) (by decide), h27.is (by decide) (by decide) rfl, h27.in (r := 502) (i := 2) (m := 4) (by decide) (by decide) rfl (by decide) (by decide), o_planets4 (f := 1) (s := 3) (t := 4) h27 (by decide) (by decide) (by decide) (by omega) (by omega) (by decide) hd4 hlv (fun S34 A3 E3 ls3 ol3 D34 h34 sa3 kp3 hk3 => fi_p rfl ?_)⟩
  rw [mk_0] at h34
  obtain ⟨d0', d1', d2', d3', d4', d5'⟩ := addr5 sa3
  rw [← d0', ← d1', ← d2', ← d3', ← d4', ← d5']
  have kq := kp.tr kp3
  have eG : gx (gx (gx Zg 0 (lrow κ0 0 0 1 a0 b0)) 1 (lrow κ1 1 0 2 a1 b1)) 2 (lrow 112 1 3 4 (6 + x) (6 + y)) = G45 (fun k => if k = 0 then κ0 else κ1) (fun k => if k = 0 then a0 else if k = 1 then a1 else 6 + x) (fun k => if k = 0 then b0 else if k = 1 then b1 else 6 + y) := rfl
  rw [eG] at h34
  have hH := gh_45 (κ := fun k => if k = 0 then κ0 else κ1) (a := fun k => if k = 0 then a0 else if k = 1 then a1 else 6 + x) (b := fun k => if k = 0 then b0 else if k = 1 then b1 else 6 + y)
  have hK : HK (fun k => if k = 0 then κ0 else κ1) (fun k => if k = 0 then a0 else if k = 1 then a1 else 6 + x) (fun k => if k = 0 then b0 else if k = 1 then b1 else 6 + y) := by
    refine ⟨fun k hk => ?_, ?_, ?_, ?_, ?_⟩
    · rcases (show k = 0 ∨ k = 1 by omega) with rfl | rfl
      · exact k0
      · exact k1
    · show 6 ≤ 6 + x
      omega
    · show 6 + x ≤ 30
      omega
    · show 6 ≤ 6 + y
      omega
    · show 6 + y ≤ 30
      omega
  have hLD : LD45 (fun k => if k = 0 then κ0 else κ1) (fun k => if k = 0 then a0 else if k = 1 then a1 else 6 + x) (fun k => if k = 0 then b0 else if k = 1 then b1 else 6 + y) D34 := by
    unfold LD45
    rw [kq.1 500 (by decide), kq.1 501 (by decide), kq.1 502 (by decide), kq.1 503 (by decide), kq.1 504 (by decide), w500, w503, w504]
    refine ⟨fun k hk => ?_, fun k hk => ?_, hF⟩
    · rcases (show k = 0 ∨ k = 1 by omega) with rfl | rfl
      · exact e0.1
      · exact e1.1
    · rcases (show k = 0 ∨ k = 1 ∨ k = 2 by omega) with rfl | rfl | rfl
      · exact ⟨(v501 0 (by decide)).trans e0.2.1, (v502 0 (by decide)).trans e0.2.2⟩
      · exact ⟨(v501 1 (by decide)).trans e1.2.1, (v502 1 (by decide)).trans e1.2.2⟩
      · exact ⟨w501, w502⟩
  generalize (fun k => if k = 0 then κ0 else κ1 : Nat → Nat) = κ at *
  generalize (fun k => if k = 0 then a0 else if k = 1 then a1 else 6 + x : Nat → Nat) = a at *
  generalize (fun k => if k = 0 then b0 else if k = 1 then b1 else 6 + y : Nat → Nat) = b at *
  have h34 : ZA A3 E3 ls3 5 3 5 0 (G45 κ a b) Zr Zr Zi Zb ol3 S34 D34 := h34
  obtain ⟨dv0, dv1, dv2, dv3, dv4⟩ := gh_drv hH h34.2.2.1.1.1
  have ef : cnt 5 (fun s => !(drv (G45 κ a b) 3 s).isSome) = 2 := by
    show 0 + (if (!(drv (G45 κ a b) 3 0).isSome) = true then 1 else 0) + (if (!(drv (G45 κ a b) 3 1).isSome) = true then 1 else 0) + (if (!(drv (G45 κ a b) 3 2).isSome) = true then 1 else 0) + (if (!(drv (G45 κ a b) 3 3).isSome) = true then 1 else 0) + (if (!(drv (G45 κ a b) 3 4).isSome) = true then 1 else 0) = 2
    rw [dv0, dv1, dv2, dv3, dv4]
    rfl
  unfold wL_law_b550
  refine ⟨c_is h34.1, o_freedom h34 ?_⟩
  rw [ef]
  refine fi_p rfl (o_driver (s := 4) h34 (by decide) dv4 (fi_p rfl (o_driverX (s := 3) h34 (by decide) dv3 (fi_p rfl (o_turn3 (s := 1) h34 (by decide) (by decide) (by rw [dv1]; simp) (fi_p rfl (o_turn2 (s := 0) h34 (by decide) (by decide) (fi_p rfl ?_))))))))
  rw [and11]
  exact p_b608 h34 hL hLD hH hK
/-- the law's first arrays, and its links -/
theorem p_arr {S : Hp} {D : Dt} (h : ZA A E ls 5 0 0 0 Zg Zr Zr Zi Zb ol S D) (hL : L9 ≤ 260) : ∀ a2 S3, a2 ∉ S.L → S3 = S.new a2 20 4 → ∀ a4 S5, a4 ∉ S3.L → S5 = S3.new a4 21 4 → ∀ a6 S7, a6 ∉ S5.L → S7 = S5.new a6 21 4 → ∀ a8 S9, a8 ∉ S7.L → S9 = S7.new a8 21 3 → vp_in 0 (S9.N a8) ∧ ∀ S11, S11 = S9.setAI a8 ((0 : Int32).toNatClampNeg) 0 → vp_in 1 (S11.N a8) ∧ ∀ S13, S13 = S11.setAI a8 ((1 : Int32).toNatClampNeg) 1 → vp_in 2 (S13.N a8) ∧ ∀ S15, S15 = S13.setAI a8 ((2 : Int32).toNatClampNeg) 1 → ∀ a16 S17, a16 ∉ S15.L → S17 = S15.new a16 21 3 → vp_in 0 (S17.N a16) ∧ ∀ S19, S19 = S17.setAI a16 ((0 : Int32).toNatClampNeg) 1 → vp_in 1 (S19.N a16) ∧ ∀ S21, S21 = S19.setAI a16 ((1 : Int32).toNatClampNeg) 2 → vp_in 2 (S21.N a16) ∧ ∀ S23, S23 = S21.setAI a16 ((2 : Int32).toNatClampNeg) 4 → it9 (wL_law_b132 x0 L9) 3 S23 (A 0) 1 a2 a4 a6 a8 a16 0 := by
  have c0 : ((0 : Int32).toNatClampNeg) = 0 := cl_nI (i := 0) (by decide)
  have c1 : ((1 : Int32).toNatClampNeg) = 1 := cl_nI (i := 1) (by decide)
  have c2 : ((2 : Int32).toNatClampNeg) = 2 := cl_nI (i := 2) (by decide)
  intro a2 S3 f2 e3 a4 S5 f4 e5 a6 S7 f6 e7 a8 S9 f8 e9
  obtain ⟨A1, D1, h1, sa1, q1, -, -, o1⟩ := h.born (nc := 0) (k := 20) (m := 4) (by decide) f2 (by decide) (by decide)
  rw [← e3] at h1
  obtain ⟨A2, D2, h2, sa2, q2, -, -, o2⟩ := h1.born (nc := 1) (k := 21) (m := 4) (by decide) f4 (by decide) (by decide)
  rw [← e5] at h2
  obtain ⟨A3, D3, h3, sa3, q3, -, -, o3⟩ := h2.born (nc := 2) (k := 21) (m := 4) (by decide) f6 (by decide) (by decide)
  rw [← e7] at h3
  obtain ⟨A4, D4, h4, sa4, q4, -, -, o4⟩ := h3.born (nc := 3) (k := 21) (m := 3) (by decide) f8 (by decide) (by decide)
  rw [← e9] at h4
  have q4' : A4 503 = a8 := q4
  rw [← q4']
  refine ⟨h4.in (r := 503) (i := 0) (by decide) (by decide) rfl (by decide) (by decide), fun S11 e11 => ?_⟩
  rw [c0] at e11
  have h11 := h4.setAI (r := 503) 0 0 (by decide) (by decide)
  rw [← e11] at h11
  refine ⟨h11.in (r := 503) (i := 1) (by decide) (by decide) rfl (by decide) (by decide), fun S13 e13 => ?_⟩
  rw [c1] at e13
  have h13 := h11.setAI (r := 503) 1 1 (by decide) (by decide)
  rw [← e13] at h13
  refine ⟨h13.in (r := 503) (i := 2) (by decide) (by decide) rfl (by decide) (by decide), fun S15 e15 => ?_⟩
  rw [c2] at e15
  have h15 := h13.setAI (r := 503) 2 1 (by decide) (by decide)
  rw [← e15] at h15
  have n3 : (((D4.setAI 503 0 0).setAI 503 1 1).setAI 503 2 1).AI 503 0 = nI 0 ∧ (((D4.setAI 503 0 0).setAI 503 1 1).setAI 503 2 1).AI 503 1 = nI 1 ∧ (((D4.setAI 503 0 0).setAI 503 1 1).setAI 503 2 1).AI 503 2 = nI 1 := ⟨(dtAI_n (by omega)).trans ((dtAI_n (by omega)).trans dtAI_s), (dtAI_n (by omega)).trans dtAI_s, dtAI_s⟩
  generalize ((D4.setAI 503 0 0).setAI 503 1 1).setAI 503 2 1 = D15 at *
  intro a16 S17 f16 e17
  obtain ⟨A5, D5, h5, sa5, q5, -, -, o5⟩ := h15.born (nc := 4) (k := 21) (m := 3) (by decide) f16 (by decide) (by decide)
  rw [← e17] at h5
  have q5' : A5 504 = a16 := q5
  rw [← q5']
  refine ⟨h5.in (r := 504) (i := 0) (by decide) (by decide) rfl (by decide) (by decide), fun S19 e19 => ?_⟩
  rw [c0] at e19
  have h19 := h5.setAI (r := 504) 0 1 (by decide) (by decide)
  rw [← e19] at h19
  refine ⟨h19.in (r := 504) (i := 1) (by decide) (by decide) rfl (by decide) (by decide), fun S21 e21 => ?_⟩
  rw [c1] at e21
  have h21 := h19.setAI (r := 504) 1 2 (by decide) (by decide)
  rw [← e21] at h21
  refine ⟨h21.in (r := 504) (i := 2) (by decide) (by decide) rfl (by decide) (by decide), fun S23 e23 => ?_⟩
  rw [c2] at e23
  have h23 := h21.setAI (r := 504) 2 4 (by decide) (by decide)
  rw [← e23] at h23
  have n4 : (((D5.setAI 504 0 1).setAI 504 1 2).setAI 504 2 4).AI 504 0 = nI 1 ∧ (((D5.setAI 504 0 1).setAI 504 1 2).setAI 504 2 4).AI 504 1 = nI 2 := ⟨(dtAI_n (by omega)).trans ((dtAI_n (by omega)).trans dtAI_s), (dtAI_n (by omega)).trans dtAI_s⟩
  have m4 : (((D5.setAI 504 0 1).setAI 504 1 2).setAI 504 2 4).AI 503 = D5.AI 503 := (dI_row (by decide)).trans ((dI_row (by decide)).trans (dI_row (by decide)))
  generalize ((D5.setAI 504 0 1).setAI 504 1 2).setAI 504 2 4 = D23 at *
  have hF : FT D23 := by
    unfold FT
    rw [m4, (o5 503 (by decide)).1]
    exact ⟨n3, n4⟩
  have h23 : ZA A5 E ls 5 0 5 0 Zg Zr Zr Zi Zb ol S23 D23 := h23
  have u5 : ∀ r, 500 ≤ r → r < 504 → A5 r = A4 r := fun r x1 x2 => sa5 r x2 (Or.inr (Or.inr (Or.inl ⟨x1, x2⟩)))
  have u4 : ∀ r, 500 ≤ r → r < 503 → A4 r = A3 r := fun r x1 x2 => sa4 r x2 (Or.inr (Or.inr (Or.inl ⟨x1, x2⟩)))
  have u3 : ∀ r, 500 ≤ r → r < 502 → A3 r = A2 r := fun r x1 x2 => sa3 r x2 (Or.inr (Or.inr (Or.inl ⟨x1, x2⟩)))
  have u2 : ∀ r, 500 ≤ r → r < 501 → A2 r = A1 r := fun r x1 x2 => sa2 r x2 (Or.inr (Or.inr (Or.inl ⟨x1, x2⟩)))
  have z0 : A5 0 = A 0 := by
    rw [sa5 0 (by decide) (al_s (by decide)), sa4 0 (by decide) (al_s (by decide)), sa3 0 (by decide) (al_s (by decide)), sa2 0 (by decide) (al_s (by decide)), sa1 0 (by decide) (al_s (by decide))]
  have x0' : a2 = A5 500 := by
    rw [u5 500 (by decide) (by decide), u4 500 (by decide) (by decide), u3 500 (by decide) (by decide), u2 500 (by decide) (by decide)]
    exact q1.symm
  have x1' : a4 = A5 501 := by
    rw [u5 501 (by decide) (by decide), u4 501 (by decide) (by decide), u3 501 (by decide) (by decide)]
    exact q2.symm
  have x2' : a6 = A5 502 := by
    rw [u5 502 (by decide) (by decide), u4 502 (by decide) (by decide)]
    exact q3.symm
  have x3' : A4 503 = A5 503 := (u5 503 (by decide) (by decide)).symm
  rw [x0', x1', x2', x3', ← z0]
  show wL_law_b132 x0 L9 (it9 (wL_law_b132 x0 L9) 2) S23 (A5 0) 1 (A5 500) (A5 501) (A5 502) (A5 503) (A5 504) (nI 0)
  refine p_mk (j := 0) h23 hL (by decide) hF (drv_none.mpr (fun k hk => absurd hk (Nat.not_lt_zero k))) (fun κ a b hK s _ => lev45 (fun k s hk hs => ?_) s) (fun κ0 a0 b0 S1 A6 E6 ls6 ol6 D6 k0 h6 sa6 t0 t1 t2 tn t3 t4 => ?_)
  · rcases (show k = 0 by omega) with rfl
    rcases hs with hs | ⟨hs, -⟩
    · rw [show s = 0 from hs]
      exact (by decide : lv45 0 < lv45 1)
    · exact absurd (show κ = 112 from hs) (kab_sm hK).2.2.2
  obtain ⟨y0, y1, y2, y3, y4, y5⟩ := addr5 sa6
  rw [← y0, ← y1, ← y2, ← y3, ← y4, ← y5]
  rw [← nI_succ]
  show wL_law_b132 x0 L9 (it9 (wL_law_b132 x0 L9) 1) S1 (A6 0) 1 (A6 500) (A6 501) (A6 502) (A6 503) (A6 504) (nI 1)
  have hF6 := hF.cg t3 t4
  refine p_mk (j := 1) h6 hL (by decide) hF6 (drv_none.mpr (fun k hk => ?_)) (fun κ a b hK s _ => lev45 (fun k s hk hs => ?_) s) (fun κ1 a1 b1 S2 A7 E7 ls7 ol7 D7 k1 h7 sa7 r0 r1 r2 rn9 r3 r4 => ?_)
  · rcases (show k = 0 by omega) with rfl
    exact (by decide : (1 : Nat) ≠ 2)
  · rcases (show k = 0 ∨ k = 1 by omega) with rfl | rfl
    · rcases hs with hs | ⟨hs, -⟩
      · rw [show s = 0 from hs]
        exact (by decide : lv45 0 < lv45 1)
      · exact absurd (show κ0 = 112 from hs) (kab_sm k0).2.2.2
    · rcases hs with hs | ⟨hs, -⟩
      · rw [show s = 1 from hs]
        exact (by decide : lv45 1 < lv45 2)
      · exact absurd (show κ = 112 from hs) (kab_sm hK).2.2.2
  obtain ⟨w0, w1, w2, w3, w4, w5⟩ := addr5 sa7
  rw [← w0, ← w1, ← w2, ← w3, ← w4, ← w5]
  rw [← nI_succ]
  show wL_law_b132 x0 L9 (it9 (wL_law_b132 x0 L9) 0) S2 (A7 0) 1 (A7 500) (A7 501) (A7 502) (A7 503) (A7 504) (nI 2)
  obtain ⟨s0, s1, s2⟩ := rn9 0 (by decide)
  exact p_plan h7 hL (hF6.cg r3 r4) k0 k1 ⟨s0.trans t0, s1.trans t1, s2.trans t2⟩ ⟨r0, r1, r2⟩
/-- the law holds over the pool -/
theorem law_start {xs : Nat → Int32} {L : Nat} (hL : L ≤ 260) (S : Hp) : wL_law S xs L := by
  unfold wL_law wL_law_b0
  intro a1 S2 f2 e2
  have h2 := pre_new (r0 := 0) (k := 7) (n := 0) (pre_nil S) f2 rfl rfl rfl
  rw [← e2] at h2
  refine q_init7 h2 rfl (fun S3 A3 h3 e3 => ?_)
  obtain ⟨A', hA, hr⟩ := pre_rep h3 (fun r hr => by
    have key : ∀ r, r < 400 → sdr r = true → b7 r = true := by decide +kernel
    exact key r (sdr_lt hr) hr) (by decide +kernel) (by decide +kernel) (by decide +kernel)
  have h0 := za_0 (A := A') hr
  have ea : A' 0 = a1 := (hA 0 rfl).trans e3
  rw [← ea]
  refine o_turn1 h0 (by unfold inR; decide) (fi_p rfl ⟨c_is h0.1, o_freedom h0 (fi_p rfl ?_)⟩)
  unfold wL_law_b31
  refine it4_c (fun j S1 v => v = nI j ∧ ∃ D1, ZA A' (fun _ => S3.T 0) (fun _ => []) j 0 0 0 Zg Zr Zr Zi Zb [] S1 D1) 5 ?_ ?_ 5 0 rfl 6 (by decide) S3 0 ⟨rfl, D9, h0⟩
  · rintro j hj S1 _ k9 ⟨rfl, D1, h1⟩ hk9
    unfold wL_law_b34
    refine if_n (nI_ge (b := 5) hj (by decide)) (o_shaft h1 (by omega) (fun S4 D4 h4 _ => fi_p rfl (o_placeOver (s := j) h4 (by omega) (fi_p (show lg_cmp (i6 (0 : Rat).num) 0 = 0 by decide +kernel) (o_placeUnder (s := j) h4 (by omega) (fi_p (show lg_cmp (i6 (((0 : Rat).den : Nat) : Int)) 1 = 0 by decide +kernel) ?_))))))
    unfold wL_law_b73
    rw [and11, ← nI_succ]
    exact hk9 _ _ ⟨rfl, D4, h4⟩
  · rintro S1 _ k9 ⟨rfl, D1, h1⟩
    unfold wL_law_b34
    exact if_p (nI_le (a := 5) (b := 5) (Nat.le_refl _) (by decide)) (p_arr h1 hL)
end BH45
