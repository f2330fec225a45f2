/-! CALLS THAT CHANGE SOMETHING, side by side: cams -/
theorem wI_inj {x : Int32} {v v' : Nat} (h : x = nI v - 1) (h' : x = nI v' - 1) (b : v ≤ 100) (b' : v' ≤ 100) : v' = v := by
  have e : nI v = nI v' := by
    rw [← Int32.sub_add_cancel (nI v) 1, ← Int32.sub_add_cancel (nI v') 1, ← h, ← h']
  exact (nI_iff (by omega) (by omega)).mp e.symm
section CX9
variable {i : Nat} {A E : Nat → Nat} {ls : Nat → List Nat} {ns nl nc nd n : Nat} {G : Nat → Nat → Nat} {P W : Nat → Rat} {mk : Nat → Int} {eng brk aact : Nat → Bool} {life sl : Nat → Nat} {K : Nat → Cm} {pn : Nat → Nat → Nat → Bool} {ds : Nat → Nat} {V : Nat → Nat → Int32} {ol : List Nat} {S S' : Hp} {D D' : Dt} {N : Hp → Prop}

theorem jl_map {A' : Nat → Nat} (hl : JL A ls nl nc nd G ol) (xA : ∀ r, al nl nc nd r → A' r = A r) : JL A' ls nl nc nd G ol := by
  refine ⟨?_, ?_, ?_, ?_, hl.2.2.2.2⟩
  · rw [hl.1]
    exact List.map_congr_left (fun k hk => (xA _ (al_l (List.mem_range.mp hk))).symm)
  · rw [hl.2.1]
    refine List.map_congr_left (fun k hk => (xA _ (al_l ?_)).symm)
    obtain ⟨j, hj⟩ := List.mem_iff_getElem?.mp hk
    exact (hl.2.2.2.2.2.2 j k hj).1
  · rw [hl.2.2.1]
    exact List.map_congr_left (fun c hc => (xA _ (Or.inr (Or.inr (Or.inl (by have := List.mem_range.mp hc; omega))))).symm)
  · rw [hl.2.2.2.1]
    exact List.map_congr_left (fun c hc => (xA _ (Or.inr (Or.inr (Or.inr (by have := List.mem_range.mp hc; omega))))).symm)
theorem cm_jc {c : Nat} {X : Cm} (hc : JC ns nl nc nd G P W mk eng brk aact life sl K pn ds V D) (n1 : nl ≤ 14) (n3 : nc ≤ 8) (s1 : SamG (fun i r => (i = 69 ∨ i = 70) ∧ r = 500 + 5 * c) (fun r => 501 + 5 * c ≤ r ∧ r < 505 + 5 * c) (fun _ => False) D D') (c8 : c < nc) (x : CmC X c D') : JC ns nl nc nd G P W mk eng brk aact life sl (fun c' => if c' = c then X else K c') pn ds V D' := by
  obtain ⟨a, b, cc, d, e, f⟩ := hc
  refine ⟨jcA a (s1.1 _ _ (by omega)) (fun i r h1 h2 h3 h4 => s1.1 i r (by omega)) (s1.2.1 _ (by omega)), jcB b (fun i r h1 h2 h3 h4 => s1.1 i r (by omega)), jcC cc (s1.2.1 _ (by omega)) (fun r hr => s1.2.2 r (fun q => q)), fun c' hc' => ?_, jcE e (fun r hr => s1.1 _ r (by omega)) (fun r hr => s1.2.1 r (by omega)), jcF f (fun i hi => s1.1 i 0 (by omega)) (s1.2.1 _ (by omega)) (fun r hr => s1.2.2 r (fun q => q))⟩
  dsimp only
  by_cases c0 : c' = c
  · rw [if_pos c0, c0]
    exact x
  · rw [if_neg c0]
    exact cmC_cg (d c' hc') (fun i hi => s1.1 _ _ (by omega)) (fun j j1 j2 => s1.2.1 _ (by omega))
theorem cm_jm {c : Nat} {X : Cm} (hm : JM ns nl nc nd G P W mk eng brk life sl K pn ds V D) (n3 : nc ≤ 8) (s1 : SamG (fun i r => i = 549 ∧ r = 70) (fun r => r = 95 ∨ r = 200 + c ∨ r = 210 + c ∨ r = 220 + c ∨ r = 230 + c) (fun _ => False) D D') (c8 : c < nc) (v95 : ∀ i, i ≠ c → D'.AI 95 i = D.AI 95 i) (x : CmM X c D') : JM ns nl nc nd G P W mk eng brk life sl (fun c' => if c' = c then X else K c') pn ds V D' := by
  obtain ⟨a, b, cc, d, e, f⟩ := hm
  refine ⟨⟨(s1.1 _ _ (by omega)).trans a.1, (s1.1 _ _ (by omega)).trans a.2.1, (s1.1 _ _ (by omega)).trans a.2.2.1, (s1.1 _ _ (by omega)).trans a.2.2.2⟩, jmB b (s1.2.1 _ (by omega)) (fun r h1 h2 => s1.2.1 r (by omega)), jmC cc (fun r h1 h2 => s1.2.1 r (by omega)) (s1.2.2 _ (fun q => q)), jmD d (fun r hr => s1.2.2 r (fun q => q)), ⟨fun c' hc' => ?_, fun c' h1 h2 => ?_⟩, jmF f (fun r hr => s1.2.1 r (by omega))⟩
  · dsimp only
    by_cases c0 : c' = c
    · rw [if_pos c0, c0]
      exact x
    · rw [if_neg c0]
      exact cmM_cg (e.1 c' hc') (congrFun (s1.2.1 94 (by omega)) _) (v95 c' c0) (fun r hr => s1.2.1 r (by omega))
  · rw [v95 c' (by omega)]
    exact e.2 c' h1 h2
theorem cm_jp {c : Nat} {X : Cm} (hp : JP i ns nl nc nd G P W mk eng brk aact life sl K pn ds V n) (hi : i < 512) (x : CmK ns X) : JP (i + 1) ns nl nc nd G P W mk eng brk aact life sl (fun c' => if c' = c then X else K c') pn ds V n := by
  obtain ⟨a, b, ⟨c1, c2, c3⟩, d⟩ := jp_next hp hi
  refine ⟨a, b, ⟨c1, fun c' hc' => ?_, c3⟩, d⟩
  dsimp only
  by_cases c0 : c' = c
  · rw [if_pos c0]
    exact x
  · rw [if_neg c0]
    exact c2 c' hc'
/-- a cam is changed on both sides -/
theorem cm_fin {c : Nat} {X : Cm} {D1 : Dt} {v b : Int64} {S6 : Hp} (ja : JA i A E ls ns nl nc nd G P W mk eng brk aact life sl K pn ds V n ol S D) (hi : i < 512) (hN : ∀ S', JS (i + 1) S' (A 0) (A 70) (A 110) (A 111) → N S') (c8 : c < nc) (s1 : SamG (fun i r => (i = 69 ∨ i = 70) ∧ r = 500 + 5 * c) (fun r => 501 + 5 * c ≤ r ∧ r < 505 + 5 * c) (fun _ => False) D D1) (x : CmC X c D1) (xk : CmK ns X) (s' : SamG (fun i r => i = 549 ∧ r = 70) (fun r => r = 95 ∨ r = 200 + c ∨ r = 210 + c ∨ r = 220 + c ∨ r = 230 + c) (fun _ => False) (D1.setAJ 110 0 v) D') (v95 : ∀ i, i ≠ c → D'.AI 95 i = (D1.setAJ 110 0 v).AI 95 i) (x' : CmM X c D') (r' : Rep A E ls nl nc nd S6 D') (t0 : D'.FI 549 70 = 0) (eb : b = v) : finP A N 0 b S6 := by
  obtain ⟨h, hl, hp, hc, hm⟩ := id ja
  obtain ⟨n1, n2, n3, n4⟩ := ja.nl14
  have hc1 := cm_jc hc n1 n3 s1 c8 x
  have hm1 : JM ns nl nc nd G P W mk eng brk life sl K pn ds V D1 := jm_cg hm n3 n4 (fun i hi => s1.1 i 70 (by omega)) (fun r h1 h2 => s1.2.1 r (by omega)) (fun r _ _ => s1.2.2 r (fun q => q))
  have hm6 := jm_out (v := v) (i := 0) (r := 110) hm1 n3 n4 rfl
  have hc6 := jc_out (v := v) (i := 0) (r := 110) hc1 n1 n3 n4 rfl
  have hc' := jc_cg (D' := D') hc6 n1 n3 n4 (fun i r hr => s'.1 i r (by omega)) (fun r hr => s'.2.1 r (by omega)) (fun r hr => s'.2.2 r (fun q => q))
  exact fin_ok r' t0 (s'.2.2 110 (fun q => q)) eb (hN _ (JA.js (i := i + 1) ⟨r', hl, cm_jp hp hi xk, hc', cm_jm hm6 n3 s' c8 v95 x'⟩))
/-- the reference's cams, after the class's step -/
theorem cm_mid {c : Nat} {D1 : Dt} {v : Int64} (ja : JA i A E ls ns nl nc nd G P W mk eng brk aact life sl K pn ds V n ol S D) (c8 : c < nc) (s1 : SamG (fun i r => (i = 69 ∨ i = 70) ∧ r = 500 + 5 * c) (fun r => 501 + 5 * c ≤ r ∧ r < 505 + 5 * c) (fun _ => False) D D1) : JM ns nl nc nd G P W mk eng brk life sl K pn ds V (D1.setAJ 110 0 v) := by
  obtain ⟨h, hl, hp, hc, hm⟩ := id ja
  obtain ⟨n1, n2, n3, n4⟩ := ja.nl14
  exact jm_out (v := v) (i := 0) (r := 110) (jm_cg hm n3 n4 (fun i hi => s1.1 i 70 (by omega)) (fun r h1 h2 => s1.2.1 r (by omega)) (fun r _ _ => s1.2.2 r (fun q => q))) n3 n4 rfl
theorem o_clear {x1 : Int32} {Z : Hp → Int32 → Prop} (ja : JA i A E ls ns nl nc nd G P W mk eng brk aact life sl K pn ds V n ol S D) (hi : i < 512) (hN : ∀ S', JS (i + 1) S' (A 0) (A 70) (A 110) (A 111) → N S') (hZ : ∀ S2 k, (isA S2 (A 70) 8 ∧ wX8_clear S2 (A 70) x1 (fun S5 b => finP A N k b.toInt64 S5)) → Z S2 k) : wL_clear S (A 0) x1 (A 110) Z := by
  obtain ⟨h, hl, hp, hc, hm⟩ := id ja
  obtain ⟨n1, n2, n3, n4⟩ := ja.nl14
  unfold wL_clear wL_clear_b0
  have ref : ∀ {S1 D1} (Φ : Hp → Int32 → Prop), Rep A E ls nl nc nd S1 D1 → JM ns nl nc nd G P W mk eng brk life sl K pn ds V D1 → _ → _ → isA S1 (A 70) 8 ∧ wX8_clear S1 (A 70) x1 Φ := fun {S1 D1} Φ h1 hm1 k1 k2 => by
    exact ⟨m_is h1, p_clearM h1 hm1.1.2.2.1 n3 hm1.2.2.2.2.1.1 k1 k2⟩
  refine ⟨c_is h, p_clearC h hl.2.2.1 n3 ja.camC (fun q => ⟨rfl, hZ _ _ (ref _ h hm (fun _ S' D' r' t' => ja.bad hi hN (by decide) r' t') (fun s hs e => absurd (inX e hs (by omega)) q))⟩) (fun c c8 e S1 D1 r1 s1 x => out_w r1 (fun S6 r6 => hZ _ _ ?_))⟩
  have w1 : SamG (fun i r => (i = 69 ∨ i = 70) ∧ r = 500 + 5 * c) (fun r => 501 + 5 * c ≤ r ∧ r < 505 + 5 * c) (fun _ => False) D D1 := s1.wk (fun _ _ q => q) (fun r q => absurd q (fun q => q)) (fun _ q => q)
  refine ref _ r6 (cm_mid ja c8 w1) (fun q2 => absurd (inX e c8 (by omega)) q2) (fun c' hc' e' S' D' r' s' t0 v95 x' => ?_)
  obtain rfl := eqX e e' (by omega) (by omega)
  exact cm_fin ja hi hN c8 w1 x (cmK_clr (hp.2.2.1.2.1 _ c8)) (s'.wk (fun _ _ q => q) (fun r q => by omega) (fun _ q => q)) v95 x' r' t0 rfl
theorem wshOK {x2 x3 : Int32} {j v : Nat} (hj : j < 24) (hv : v ≤ 100) (e2 : x2 = nI j) (e3 : x3 = nI v - 1) : (0 ≤ x2.toInt ∧ x2.toInt ≤ 23) ∧ (-1 ≤ x3.toInt ∧ x3.toInt ≤ 99) := by
  have e : (nI v - 1).toInt = (v : Int) - 1 := by
    by_cases c : v = 0
    · rw [c]
      decide
    · rw [wI_p c, nI_toInt (by omega)]
      omega
  rw [e2, e3, nI_toInt (by omega), e]
  omega
theorem o_wish {x1 x2 x3 : Int32} {Z : Hp → Int32 → Prop} (ja : JA i A E ls ns nl nc nd G P W mk eng brk aact life sl K pn ds V n ol S D) (hi : i < 512) (hN : ∀ S', JS (i + 1) S' (A 0) (A 70) (A 110) (A 111) → N S') (hZ : ∀ S2 k, (isA S2 (A 70) 8 ∧ wX8_wish S2 (A 70) x1 x2 x3 (fun S5 b => finP A N k b.toInt64 S5)) → Z S2 k) : wL_wish S (A 0) x1 x2 x3 (A 110) Z := by
  obtain ⟨h, hl, hp, hc, hm⟩ := id ja
  obtain ⟨n1, n2, n3, n4⟩ := ja.nl14
  unfold wL_wish wL_wish_b0
  have hx : ∀ {D1 : Dt}, JM ns nl nc nd G P W mk eng brk life sl K pn ds V D1 → ∀ c, c < nc → CmM (K c) c D1 ∧ CmK ns (K c) := fun hm1 c c8 => ⟨hm1.2.2.2.2.1.1 c c8, hp.2.2.1.2.1 c c8⟩
  have ref : ∀ {S1 D1} (Φ : Hp → Int32 → Prop), Rep A E ls nl nc nd S1 D1 → JM ns nl nc nd G P W mk eng brk life sl K pn ds V D1 → _ → _ → _ → isA S1 (A 70) 8 ∧ wX8_wish S1 (A 70) x1 x2 x3 Φ := fun {S1 D1} Φ h1 hm1 k1 k2 k3 => by
    exact ⟨m_is h1, p_wishM h1 hm1.1.2.2.1 n3 (hx hm1) k1 k2 k3⟩
  refine ⟨c_is h, p_wishC h hl.2.2.1 n3 ja.camC (fun q => Or.inl ⟨rfl, hZ _ _ (ref _ h hm (fun _ S' D' r' t' => ja.bad hi hN (by decide) r' t') (fun q2 => absurd q2 q) (fun c j v c8 hj hv e => absurd (inX e c8 (by omega)) q))⟩) (fun q q2 => Or.inr ⟨rfl, hZ _ _ (ref _ h hm (fun q3 => absurd q q3) (fun _ _ S' D' r' t' => ja.bad hi hN (by decide) r' t') (fun c j v c8 hj hv e e2 e3 => absurd (wshOK hj hv e2 e3) q2))⟩) (fun c j v c8 hj hv e e2 e3 S1 D1 r1 s1 x => out_w r1 (fun S6 r6 => hZ _ _ ?_))⟩
  have w1 : SamG (fun i r => (i = 69 ∨ i = 70) ∧ r = 500 + 5 * c) (fun r => 501 + 5 * c ≤ r ∧ r < 505 + 5 * c) (fun _ => False) D D1 := s1.wk (fun _ _ q => absurd q (fun q => q)) (fun r q => by omega) (fun _ q => q)
  refine ref _ r6 (cm_mid ja c8 w1) (fun q2 => absurd (inX e c8 (by omega)) q2) (fun _ q2 => absurd (wshOK hj hv e2 e3) q2) (fun c' j' v' hc' hj' hv' e' e2' e3' S' D' r' s' t0 x' => ?_)
  obtain rfl := eqX e e' (by omega) (by omega)
  obtain rfl := eqX e2 e2' (by omega) (by omega)
  obtain rfl := wI_inj e3 e3' hv hv'
  exact cm_fin ja hi hN c8 w1 x (cmK_wsh (hp.2.2.1.2.1 _ c8) hv) (s'.wk (fun _ _ q => q) (fun r q => by omega) (fun _ q => q)) (fun i hi => congrFun (s'.2.1 95 (by omega)) i) x' r' t0 rfl
theorem segOK {x2 x3 x4 : Int32} {p hh w : Nat} (p1 : 1 ≤ p) (p2 : p ≤ 24) (h9 : hh ≤ 99) (hw : w = 117 ∨ w = 112) (e2 : x2 = nI p) (e3 : x3 = nI hh) (e4 : x4 = nI w) : (1 ≤ x2.toInt ∧ x2.toInt ≤ 24) ∧ (0 ≤ x3.toInt ∧ x3.toInt ≤ 99) ∧ (x4 = 117 ∨ x4 = 112) := by
  rw [e2, e3, nI_toInt (by omega), nI_toInt (by omega), e4]
  refine ⟨by omega, by omega, ?_⟩
  rcases hw with q | q <;> rw [q]
  · exact Or.inl rfl
  · exact Or.inr rfl
theorem o_segment {x1 x2 x3 x4 : Int32} {Z : Hp → Int32 → Prop} (ja : JA i A E ls ns nl nc nd G P W mk eng brk aact life sl K pn ds V n ol S D) (hi : i < 512) (hN : ∀ S', JS (i + 1) S' (A 0) (A 70) (A 110) (A 111) → N S') (hZ : ∀ S2 k, (isA S2 (A 70) 8 ∧ wX8_segment S2 (A 70) x1 x2 x3 x4 (fun S5 b => finP A N k b.toInt64 S5)) → Z S2 k) : wL_segment S (A 0) x1 x2 x3 x4 (A 110) Z := by
  obtain ⟨h, hl, hp, hc, hm⟩ := id ja
  obtain ⟨n1, n2, n3, n4⟩ := ja.nl14
  unfold wL_segment wL_segment_b0
  have hx : ∀ {D1 : Dt}, JM ns nl nc nd G P W mk eng brk life sl K pn ds V D1 → ∀ c, c < nc → CmM (K c) c D1 ∧ CmK ns (K c) := fun hm1 c c8 => ⟨hm1.2.2.2.2.1.1 c c8, hp.2.2.1.2.1 c c8⟩
  have ref : ∀ {S1 D1} (Φ : Hp → Int32 → Prop), Rep A E ls nl nc nd S1 D1 → JM ns nl nc nd G P W mk eng brk life sl K pn ds V D1 → _ → _ → _ → _ → isA S1 (A 70) 8 ∧ wX8_segment S1 (A 70) x1 x2 x3 x4 Φ := fun {S1 D1} Φ h1 hm1 k1 k2 k3 k4 => by
    exact ⟨m_is h1, p_segmentM h1 hm1.1.2.2.1 n3 (hx hm1) k1 k2 k3 k4⟩
  refine ⟨c_is h, p_segmentC h hl.2.2.1 n3 ja.camC (fun q => Or.inl ⟨rfl, hZ _ _ (ref _ h hm (fun _ S' D' r' t' => ja.bad hi hN (by decide) r' t') (fun q2 => absurd q2 q) (fun c p c8 _ e => absurd (inX e c8 (by omega)) q) (fun c p hh w c8 _ _ _ _ e => absurd (inX e c8 (by omega)) q))⟩) (fun q q2 => Or.inr (Or.inl ⟨rfl, hZ _ _ (ref _ h hm (fun q3 => absurd q q3) (fun _ _ S' D' r' t' => ja.bad hi hN (by decide) r' t') (fun c p c8 _ e e2 ok => absurd ok q2) (fun c p hh w c8 p1 p2 h9 hw e e2 e3 e4 => absurd (segOK p1 p2 h9 hw e2 e3 e4) q2))⟩)) (fun c p c8 p24 e e2 ok big => Or.inr (Or.inr ⟨rfl, hZ _ _ (ref _ h hm (fun q3 => absurd (inX e c8 (by omega)) q3) (fun _ q2 => absurd ok q2) (fun _ _ _ _ _ _ _ _ S' D' r' t' => ja.bad hi hN (by decide) r' t') (fun c' p' hh w c8' p1 p2 h9 hw e' e2' e3 e4 fit => ?_))⟩)) (fun c p hh w c8 p1 p2 h9 hw e e2 e3 e4 fit S1 D1 r1 s1 x => out_w r1 (fun S6 r6 => hZ _ _ ?_))⟩
  · obtain rfl := eqX e e' (by omega) (by omega)
    obtain rfl := eqX e2 e2' (by omega) (by omega)
    exact absurd fit big
  have w1 : SamG (fun i r => (i = 69 ∨ i = 70) ∧ r = 500 + 5 * c) (fun r => 501 + 5 * c ≤ r ∧ r < 505 + 5 * c) (fun _ => False) D D1 := s1.wk (fun _ _ q => q) (fun r q => by omega) (fun _ q => q)
  refine ref _ r6 (cm_mid ja c8 w1) (fun q2 => absurd (inX e c8 (by omega)) q2) (fun _ q2 => absurd (segOK p1 p2 h9 hw e2 e3 e4) q2) (fun c' p' c8' p24 e' e2' ok big => ?_) (fun c' p' hh' w' c8' p1' p2' h9' hw' e' e2' e3' e4' fit' S' D' r' s' t0 v95 x' => ?_)
  · obtain rfl := eqX e e' (by omega) (by omega)
    obtain rfl := eqX e2 e2' (by omega) (by omega)
    exact absurd fit big
  obtain rfl := eqX e e' (by omega) (by omega)
  obtain rfl := eqX e2 e2' (by omega) (by omega)
  obtain rfl := eqX e3 e3' (by omega) (by omega)
  obtain rfl := eqX e4 e4' (by omega) (by omega)
  exact cm_fin ja hi hN c8 w1 x (cmK_app (hp.2.2.1.2.1 _ c8) p1 h9 hw fit) (s'.wk (fun _ _ q => q) (fun r q => by omega) (fun _ q => q)) v95 x' r' t0 rfl
theorem mkOK {x2 x3 : Int32} {w b : Nat} (hw : w = 117 ∨ w = 112) (hb : 1 ≤ b ∧ b ≤ 99) (e2 : x2 = nI w) (e3 : x3 = nI b) : (x2 = 117 ∨ x2 = 112) ∧ (1 ≤ x3.toInt ∧ x3.toInt ≤ 99) := by
  rw [e3, nI_toInt (by omega), e2]
  refine ⟨?_, by omega⟩
  rcases hw with q | q <;> rw [q]
  · exact Or.inl rfl
  · exact Or.inr rfl
theorem o_make {x1 x2 x3 : Int32} {Z : Hp → Int32 → Prop} (ja : JA i A E ls ns nl nc nd G P W mk eng brk aact life sl K pn ds V n ol S D) (hi : i < 512) (hN : ∀ S', JS (i + 1) S' (A 0) (A 70) (A 110) (A 111) → N S') (hZ : ∀ S2 k, (isA S2 (A 70) 8 ∧ wX8_make S2 (A 70) x1 x2 x3 (fun S5 b => finP A N k b.toInt64 S5)) → Z S2 k) : wL_make S (A 0) x1 x2 x3 (A 110) Z := by
  obtain ⟨h, hl, hp, hc, hm⟩ := id ja
  obtain ⟨n1, n2, n3, n4⟩ := ja.nl14
  unfold wL_make wL_make_b0
  have hx : ∀ {D1 : Dt}, JM ns nl nc nd G P W mk eng brk life sl K pn ds V D1 → ∀ c, c < nc → CmM (K c) c D1 ∧ CmK ns (K c) := fun hm1 c c8 => ⟨hm1.2.2.2.2.1.1 c c8, hp.2.2.1.2.1 c c8⟩
  have ref : ∀ {S1 D1} (Φ : Hp → Int32 → Prop), Rep A E ls nl nc nd S1 D1 → JM ns nl nc nd G P W mk eng brk life sl K pn ds V D1 → _ → _ → _ → _ → _ → isA S1 (A 70) 8 ∧ wX8_make S1 (A 70) x1 x2 x3 Φ := fun {S1 D1} Φ h1 hm1 k1 k2 k3 k4 k5 => by
    exact ⟨m_is h1, p_makeM h1 hm1.1.2.2.1 n3 (hx hm1) k1 k2 k3 k4 k5⟩
  refine ⟨c_is h, p_makeC h hl.2.2.1 n3 ja.camC (fun q => Or.inl ⟨rfl, hZ _ _ (ref _ h hm (fun _ S' D' r' t' => ja.bad hi hN (by decide) r' t') (fun q2 => absurd q2 q) (fun c c8 e => absurd (inX e c8 (by omega)) q) (fun c w b c8 _ _ e => absurd (inX e c8 (by omega)) q) (fun c w b c8 _ _ e => absurd (inX e c8 (by omega)) q))⟩) (fun q q2 => Or.inr (Or.inl ⟨rfl, hZ _ _ (ref _ h hm (fun q3 => absurd q q3) (fun _ _ S' D' r' t' => ja.bad hi hN (by decide) r' t') (fun c c8 e ok => absurd ok q2) (fun c w b c8 hw hb e e2 e3 => absurd (mkOK hw hb e2 e3) q2) (fun c w b c8 hw hb e e2 e3 => absurd (mkOK hw hb e2 e3) q2))⟩)) (fun c c8 e ok z => Or.inr (Or.inr (Or.inl ⟨rfl, hZ _ _ (ref _ h hm (fun q3 => absurd (inX e c8 (by omega)) q3) (fun _ q2 => absurd ok q2) (fun _ _ _ _ _ S' D' r' t' => ja.bad hi hN (by decide) r' t') (fun c' w b c8' hw hb e' e2 e3 z' => ?_) (fun c' w b c8' hw hb e' e2 e3 z' => ?_))⟩))) (fun c w b c8 hw hb e e2 e3 z ok => Or.inr (Or.inr (Or.inr ⟨rfl, hZ _ _ (ref _ h hm (fun q3 => absurd (inX e c8 (by omega)) q3) (fun _ q2 => absurd (mkOK hw hb e2 e3) q2) (fun c' c8' e' _ z' => ?_) (fun _ _ _ _ _ _ _ _ _ _ _ S' D' r' t' => ja.bad hi hN (by decide) r' t') (fun c' w' b' c8' hw' hb' e' e2' e3' z' ok' => ?_))⟩))) (fun c w b c8 hw hb e e2 e3 z ok S1 D1 r1 s1 x => out_w r1 (fun S6 r6 => hZ _ _ ?_))⟩
  · obtain rfl := eqX e e' (by omega) (by omega)
    exact absurd z z'
  · obtain rfl := eqX e e' (by omega) (by omega)
    exact absurd z z'
  · obtain rfl := eqX e e' (by omega) (by omega)
    exact absurd z' z
  · obtain rfl := eqX e e' (by omega) (by omega)
    obtain rfl := eqX e2 e2' (by omega) (by omega)
    obtain rfl := eqX e3 e3' (by omega) (by omega)
    rw [ok] at ok'
    exact absurd ok' (by decide)
  have w1 : SamG (fun i r => (i = 69 ∨ i = 70) ∧ r = 500 + 5 * c) (fun r => 501 + 5 * c ≤ r ∧ r < 505 + 5 * c) (fun _ => False) D D1 := s1.wk (fun _ _ q => q) (fun r q => by omega) (fun _ q => q)
  refine ref _ r6 (cm_mid ja c8 w1) (fun q2 => absurd (inX e c8 (by omega)) q2) (fun _ q2 => absurd (mkOK hw hb e2 e3) q2) (fun c' c8' e' _ z' => ?_) (fun c' w' b' c8' hw' hb' e' e2' e3' z' ok' => ?_) (fun c' w' b' c8' hw' hb' e' e2' e3' z' ok' S' D' r' s' t0 v95 x' => ?_)
  · obtain rfl := eqX e e' (by omega) (by omega)
    exact absurd z' z
  · obtain rfl := eqX e e' (by omega) (by omega)
    obtain rfl := eqX e2 e2' (by omega) (by omega)
    obtain rfl := eqX e3 e3' (by omega) (by omega)
    rw [ok] at ok'
    exact absurd ok' (by decide)
  obtain rfl := eqX e e' (by omega) (by omega)
  obtain rfl := eqX e2 e2' (by omega) (by omega)
  exact cm_fin ja hi hN c8 w1 x (mkCm_ok (hp.2.2.1.2.1 _ c8) (hp.2.2.1.2.1 _ c8).2.2.2 z hw 24 (Nat.le_refl _)).1 (s'.wk (fun _ _ q => q) (fun r q => by omega) (fun _ q => q)) v95 x' r' t0 rfl
end CX9
