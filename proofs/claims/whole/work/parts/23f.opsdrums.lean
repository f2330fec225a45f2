/-! CALLS THAT CHANGE SOMETHING, side by side: new cams, drums, pins -/
def cm0 (s : Nat) : Cm := (s, 0, fun _ => 0, fun _ => 0, fun _ => 0, fun _ => 0)
section DX9
variable {i : Nat} {A E : Nat → Nat} {ls : Nat → List Nat} {ns nl nc nd n : Nat} {G : Nat → Nat → Nat} {P W : Nat → Rat} {mk : Nat → Int} {eng brk aact : Nat → Bool} {life sl : Nat → Nat} {K : Nat → Cm} {pn : Nat → Nat → Nat → Bool} {ds : Nat → Nat} {V : Nat → Nat → Int32} {ol : List Nat} {S S' : Hp} {D D' : Dt} {N : Hp → Prop}

theorem o_cam {x1 : Int32} {Z : Hp → Int32 → Prop} (ja : JA i A E ls ns nl nc nd G P W mk eng brk aact life sl K pn ds V n ol S D) (hi : i < 512) (hN : ∀ S', JS (i + 1) S' (A 0) (A 70) (A 110) (A 111) → N S') (hZ : ∀ S2 k, (isA S2 (A 70) 8 ∧ wX8_cam S2 (A 70) x1 (fun S5 b => finP A N k b.toInt64 S5)) → Z S2 k) : wL_cam S (A 0) x1 (A 110) Z := by
  obtain ⟨h, hl, hp, hc, hm⟩ := id ja
  obtain ⟨n1, n2, n3, n4⟩ := ja.nl14
  have ref : ∀ {A1 E1 ls1 ncr S1 D1} (Φ : Hp → Int32 → Prop), Rep A1 E1 ls1 nl ncr nd S1 D1 → JM ns nl nc nd G P W mk eng brk life sl K pn ds V D1 → _ → _ → _ → isA S1 (A1 70) 8 ∧ wX8_cam S1 (A1 70) x1 Φ := fun {A1 E1 ls1 ncr S1 D1} Φ h1 hm1 k1 k2 k3 => by
    exact ⟨m_is h1, p_camM h1 n2 hm1.1.1 hm1.1.2.2.1 n3 (fun q => hm1.2.2.2.2.1.2 nc (Nat.le_refl _) q) k1 k2 k3⟩
  unfold wL_cam wL_cam_b0
  refine ⟨c_is h, p_camC h n2 hc.1.1 n1 hl.2.2.1 n3 (fun q => Or.inl ⟨rfl, hZ _ _ (ref _ h hm (fun _ S' D' r' t' => ja.bad hi hN (by decide) r' t') (fun q2 => absurd q2 q) (fun s hs e => absurd (inX e hs (by omega)) q))⟩) (fun q q2 => Or.inr ⟨rfl, hZ _ _ (ref _ h hm (fun q3 => absurd q q3) (fun _ _ S' D' r' t' => ja.bad hi hN (by decide) r' t') (fun s hs e q3 => absurd q3 q2))⟩) (fun s hs e q S1 A' E' ls' D1 r1 s1 s2 xA l2 lo x => ?_)⟩
  have e0' := xA 0 (al_s (by decide))
  have e70 := xA 70 (al_s (by decide))
  have e110 := xA 110 (al_s (by decide))
  have e111 := xA 111 (al_s (by decide))
  have nn : ∀ r, r < 500 → ¬ nwC nc r = true := fun r hr q => by
    have := nwC_e.mp q
    omega
  have nm : ∀ r, 600 ≤ r → ¬ nwC nc r = true := fun r hr q => by
    have := nwC_e.mp q
    omega
  have hm1 : JM ns nl nc nd G P W mk eng brk life sl K pn ds V D1 := jm_cg hm n3 n4 (fun i _ => s1 i 70 (nn _ (by omega))) (fun r h1 h2 => (s2 r (nn r (by omega))).1) (fun r h1 h2 => (s2 r (nn r (by omega))).2)
  have hc1 : JC ns nl (nc + 1) nd G P W mk eng brk aact life sl (fun c' => if c' = nc then cm0 s else K c') pn ds V D1 := by
    obtain ⟨a, b, cc, d, e, f⟩ := hc
    refine ⟨jcA a (s1 _ _ (nn _ (by omega))) (fun i r h1 h2 h3 h4 => s1 i r (nn _ (by omega))) (s2 _ (nn _ (by omega))).1, jcB b (fun i r h1 h2 h3 h4 => s1 i r (nn _ (by omega))), jcC cc (s2 _ (nn _ (by omega))).1 (fun r hr => (s2 r (nn _ (by omega))).2), fun c' hc' => ?_, jcE e (fun r hr => s1 _ r (nm _ hr)) (fun r hr => (s2 r (nm _ hr)).1), jcF f (fun i hi => s1 i 0 (nn _ (by omega))) (s2 _ (nn _ (by omega))).1 (fun r hr => (s2 r (nn _ (by omega))).2)⟩
    dsimp only
    by_cases c0 : c' = nc
    · rw [if_pos c0, c0]
      exact x
    · rw [if_neg c0]
      exact cmC_cg (d c' (by omega)) (fun i hi => s1 _ _ (fun q => by have := nwC_e.mp q; omega)) (fun j j1 j2 => (s2 _ (fun q => by have := nwC_e.mp q; omega)).1)
  have jl1 := jl_map hl xA
  have jl' : JL A' ls' nl (nc + 1) nd G ol := ⟨by rw [lo 0 (by decide)]; exact jl1.1, by rw [lo 1 (by decide)]; exact jl1.2.1, l2, by rw [lo 3 (by decide)]; exact jl1.2.2.2.1, hl.2.2.2.2⟩
  rw [← e110]
  refine out_w r1 (fun S6 r6 => hZ _ _ ?_)
  rw [← e70]
  have hm6 := jm_out (v := (nI nc).toInt64) (i := 0) (r := 110) hm1 n3 n4 rfl
  have hc6 := jc_out (v := (nI nc).toInt64) (i := 0) (r := 110) hc1 n1 (by omega) n4 rfl
  refine ref _ r6 hm6 (fun q2 => absurd (inX e hs (by omega)) q2) (fun _ q2 => absurd q q2) (fun sh hs' e' _ S' D' r' s' t0 v545 v94 x' => ?_)
  obtain rfl := eqX e e' (by omega) (by omega)
  have hc' := jc_cg (D' := D') hc6 n1 (by omega) n4 (fun i r hr => s'.1 i r (by omega)) (fun r hr => s'.2.1 r (by omega)) (fun r hr => s'.2.2 r (fun q => q))
  refine finA e70 e110 (fin_ok r' t0 (s'.2.2 110 (fun q => q)) rfl (hN _ ?_))
  rw [← e0', ← e70, ← e110, ← e111]
  refine JA.js (i := i + 1) (n := n) ⟨r', jl', ?_, hc', ?_⟩
  · obtain ⟨a, b, ⟨c1, c2, c3, c4, c5⟩, d⟩ := jp_next hp hi
    refine ⟨a, b, ⟨c1, fun c' hc' => ?_, c3, by omega, c5⟩, d⟩
    dsimp only
    by_cases c0 : c' = nc
    · rw [if_pos c0]
      exact ⟨hs, Nat.zero_le _, fun j hj => absurd hj (Nat.not_lt_zero j), fun j hj => Nat.zero_le _⟩
    · rw [if_neg c0]
      exact c2 c' (by omega)
  · obtain ⟨a, b, cc, d, e, f⟩ := hm6
    refine ⟨⟨(s'.1 _ _ (by omega)).trans a.1, (s'.1 _ _ (by omega)).trans a.2.1, v545, (s'.1 _ _ (by omega)).trans a.2.2.2⟩, jmB b (s'.2.1 _ (by omega)) (fun r h1 h2 => s'.2.1 r (by omega)), jmC cc (fun r h1 h2 => s'.2.1 r (by omega)) (s'.2.2 _ (fun q => q)), jmD d (fun r hr => s'.2.2 r (fun q => q)), ⟨fun c' hc' => ?_, fun c' h1 h2 => ?_⟩, jmF f (fun r hr => s'.2.1 r (by omega))⟩
    · dsimp only
      by_cases c0 : c' = nc
      · rw [if_pos c0, c0]
        exact x'
      · rw [if_neg c0]
        exact cmM_cg (e.1 c' (by omega)) (v94 c' c0) (congrFun (s'.2.1 95 (by omega)) _) (fun r hr => s'.2.1 r (by omega))
    · rw [s'.2.1 95 (by omega)]
      exact e.2 c' (by omega) h2
theorem o_drum {x1 : Int32} {Z : Hp → Int32 → Prop} (ja : JA i A E ls ns nl nc nd G P W mk eng brk aact life sl K pn ds V n ol S D) (hi : i < 512) (hN : ∀ S', JS (i + 1) S' (A 0) (A 70) (A 110) (A 111) → N S') (hZ : ∀ S2 k, (isA S2 (A 70) 8 ∧ wX8_drum S2 (A 70) x1 (fun S5 b => finP A N k b.toInt64 S5)) → Z S2 k) : wL_drum S (A 0) x1 (A 110) Z := by
  obtain ⟨h, hl, hp, hc, hm⟩ := id ja
  obtain ⟨n1, n2, n3, n4⟩ := ja.nl14
  have ref : ∀ {A1 E1 ls1 ndr S1 D1} (Φ : Hp → Int32 → Prop), Rep A1 E1 ls1 nl nc ndr S1 D1 → JM ns nl nc nd G P W mk eng brk life sl K pn ds V D1 → _ → _ → _ → isA S1 (A1 70) 8 ∧ wX8_drum S1 (A1 70) x1 Φ := fun {A1 E1 ls1 ndr S1 D1} Φ h1 hm1 k1 k2 k3 => by
    exact ⟨m_is h1, p_drumM h1 n2 hm1.1.1 hm1.1.2.2.2 n4 k1 k2 k3⟩
  unfold wL_drum wL_drum_b0
  refine ⟨c_is h, p_drumC h n2 hc.1.1 n1 hl.2.2.2.1 n3 n4 (fun q => Or.inl ⟨rfl, hZ _ _ (ref _ h hm (fun _ S' D' r' t' => ja.bad hi hN (by decide) r' t') (fun q2 => absurd q2 q) (fun s hs e => absurd (inX e hs (by omega)) q))⟩) (fun q q2 => Or.inr ⟨rfl, hZ _ _ (ref _ h hm (fun q3 => absurd q q3) (fun _ _ S' D' r' t' => ja.bad hi hN (by decide) r' t') (fun s hs e q3 => absurd q3 q2))⟩) (fun s hs e q S1 A' E' ls' D1 r1 s1 s2 xA l3 lo v128 v601 v602 => ?_)⟩
  have e0' := xA 0 (al_s (by decide))
  have e70 := xA 70 (al_s (by decide))
  have e110 := xA 110 (al_s (by decide))
  have e111 := xA 111 (al_s (by decide))
  have nn : ∀ r, r < 600 → ¬ nwD nd r = true := fun r hr q => by
    have := nwD_e.mp q
    omega
  have hm1 : JM ns nl nc nd G P W mk eng brk life sl K pn ds V D1 := jm_cg hm n3 n4 (fun i _ => s1 i 70 (nn _ (by omega))) (fun r h1 h2 => (s2 r (nn r (by omega))).1) (fun r h1 h2 => (s2 r (nn r (by omega))).2)
  have hf := hp.2.2.2.2.2
  have hc1 : JC ns nl nc (nd + 1) G P W mk eng brk aact life sl K pn (fun d' => if d' = nd then s else ds d') V D1 := by
    obtain ⟨a, b, cc, d, ⟨e1, e2, e3⟩, f⟩ := hc
    refine ⟨jcA a (s1 _ _ (nn _ (by omega))) (fun i r h1 h2 h3 h4 => s1 i r (nn _ (by omega))) (s2 _ (nn _ (by omega))).1, jcB b (fun i r h1 h2 h3 h4 => s1 i r (nn _ (by omega))), jcC cc (s2 _ (nn _ (by omega))).1 (fun r hr => (s2 r (nn _ (by omega))).2), fun c' hc' => cmC_cg (d c' hc') (fun i hi => s1 _ _ (nn _ (by omega))) (fun j j1 j2 => (s2 _ (nn _ (by omega))).1), ⟨fun d' hd' => ?_, fun d' t hd' ht => ?_, fun d' p t hd' hp' ht => ?_⟩, jcF f (fun i hi => s1 i 0 (nn _ (by omega))) (s2 _ (nn _ (by omega))).1 (fun r hr => (s2 r (nn _ (by omega))).2)⟩
    · dsimp only
      by_cases c0 : d' = nd
      · rw [if_pos c0, c0]
        exact v128
      · rw [if_neg c0, s1 _ _ (fun q => by have := nwD_e.mp q; omega)]
        exact e1 d' (by omega)
    · by_cases c0 : d' = nd
      · rw [c0, v602, (hf nd (Nat.le_refl _)).2 t]
      · rw [(s2 _ (fun q => by have := nwD_e.mp q; omega)).1]
        exact e2 d' t (by omega) ht
    · by_cases c0 : d' = nd
      · rw [c0, v601, (hf nd (Nat.le_refl _)).1 p t, Int32.zero_and]
        exact ⟨fun _ => rfl, fun _ => rfl⟩
      · rw [(s2 _ (fun q => by have := nwD_e.mp q; omega)).1]
        exact e3 d' p t (by omega) hp' ht
  have jl1 := jl_map hl xA
  have jl' : JL A' ls' nl nc (nd + 1) G ol := ⟨by rw [lo 0 (by decide)]; exact jl1.1, by rw [lo 1 (by decide)]; exact jl1.2.1, by rw [lo 2 (by decide)]; exact jl1.2.2.1, l3, hl.2.2.2.2⟩
  rw [← e110]
  refine out_w r1 (fun S6 r6 => hZ _ _ ?_)
  rw [← e70]
  have hm6 := jm_out (v := (nI nd).toInt64) (i := 0) (r := 110) hm1 n3 n4 rfl
  have hc6 := jc_out (v := (nI nd).toInt64) (i := 0) (r := 110) hc1 n1 n3 (by omega) rfl
  refine ref _ r6 hm6 (fun q2 => absurd (inX e hs (by omega)) q2) (fun _ q2 => absurd q q2) (fun sh hs' e' _ S' D' r' s' t0 v546 v100 => ?_)
  obtain rfl := eqX e e' (by omega) (by omega)
  have hc' := jc_cg (D' := D') hc6 n1 n3 (by omega) (fun i r hr => s'.1 i r (by omega)) (fun r hr => s'.2.1 r (by omega)) (fun r hr => s'.2.2 r (fun q => q))
  refine finA e70 e110 (fin_ok r' t0 (s'.2.2 110 (fun q => q)) rfl (hN _ ?_))
  rw [← e0', ← e70, ← e110, ← e111]
  refine JA.js (i := i + 1) (n := n) ⟨r', jl', ?_, hc', ?_⟩
  · obtain ⟨a, b, ⟨c1, c2, c3, c4, c5⟩, d, e2, f⟩ := jp_next hp hi
    refine ⟨a, b, ⟨c1, c2, fun d' hd' => ?_, c4, by omega⟩, d, e2, fun d' hd' => f d' (by omega)⟩
    dsimp only
    by_cases c0 : d' = nd
    · rw [if_pos c0]
      exact hs
    · rw [if_neg c0]
      exact c3 d' (by omega)
  · obtain ⟨a, b, cc, d, e2, ⟨f1, f2, f3⟩⟩ := hm6
    refine ⟨⟨(s'.1 _ _ (by omega)).trans a.1, (s'.1 _ _ (by omega)).trans a.2.1, (s'.1 _ _ (by omega)).trans a.2.2.1, v546⟩, jmB b (s'.2.1 _ (by omega)) (fun r h1 h2 => s'.2.1 r (by omega)), jmC cc (fun r h1 h2 => s'.2.1 r (by omega)) (s'.2.2 _ (fun q => q)), jmD d (fun r hr => s'.2.2 r (fun q => q)), jmE e2 n3 (fun r hr => s'.2.1 r (by omega)), ⟨fun d' hd' => ?_, fun d p t hd hp ht => by rw [s'.2.1 _ (by omega)]; exact f2 d p t hd hp ht, fun d t hd ht => by rw [s'.2.1 _ (by omega)]; exact f3 d t hd ht⟩⟩
    rw [v100]
    dsimp only
    by_cases c0 : d' = nd
    · rw [if_pos c0, if_pos c0]
    · rw [if_neg c0, if_neg c0]
      exact f1 d' (by omega)
theorem pinOK {x2 x3 : Int32} {p t : Nat} (hp : p < 24) (ht : t < 8) (e2 : x2 = nI p) (e3 : x3 = nI t) : (0 ≤ x2.toInt ∧ x2.toInt ≤ 23) ∧ (0 ≤ x3.toInt ∧ x3.toInt ≤ 7) := by
  rw [e2, e3, nI_toInt (by omega), nI_toInt (by omega)]
  omega
theorem o_pin {x1 x2 x3 : Int32} {v : Bool} {Z : Hp → Int32 → Prop} (ja : JA i A E ls ns nl nc nd G P W mk eng brk aact life sl K pn ds V n ol S D) (hi : i < 512) (hN : ∀ S', JS (i + 1) S' (A 0) (A 70) (A 110) (A 111) → N S') (hZ : ∀ S2 k, (isA S2 (A 70) 8 ∧ wX8_pin S2 (A 70) x1 x2 x3 (bI v) (fun S5 b => finB A N k b S5)) → Z S2 k) : wL_pin S (A 0) x1 x2 x3 (bI v) (A 110) Z := by
  obtain ⟨h, hl, hp, hc, hm⟩ := id ja
  obtain ⟨n1, n2, n3, n4⟩ := ja.nl14
  have ref : ∀ {S1 D1} (Φ : Hp → Int32 → Prop), Rep A E ls nl nc nd S1 D1 → JM ns nl nc nd G P W mk eng brk life sl K pn ds V D1 → _ → _ → _ → isA S1 (A 70) 8 ∧ wX8_pin S1 (A 70) x1 x2 x3 (bI v) Φ := fun {S1 D1} Φ h1 hm1 k1 k2 k3 => by
    exact ⟨m_is h1, p_pinM h1 hm1.1.2.2.2 n4 hm1.2.2.2.2.2.2.1 k1 k2 k3⟩
  unfold wL_pin wL_pin_b0
  refine ⟨c_is h, p_pinC h hl.2.2.2.1 n4 hc.2.2.2.2.1.2.2 (fun q => Or.inl ⟨rfl, hZ _ _ (ref _ h hm (fun _ S' D' r' t' => finB_t (ja.bad hi hN (by decide) r' t') (by decide)) (fun q2 => absurd q2 q) (fun d p t hd _ _ e => absurd (inX e hd (by omega)) q))⟩) (fun q q2 => Or.inr ⟨rfl, hZ _ _ (ref _ h hm (fun q3 => absurd q q3) (fun _ _ S' D' r' t' => finB_t (ja.bad hi hN (by decide) r' t') (by decide)) (fun d p t hd hp ht e e2 e3 => absurd (pinOK hp ht e2 e3) q2))⟩) (fun d p t hd hp2 ht e e2 e3 S1 D1 r1 s1 x => outB r1 (fun S6 r6 => hZ _ _ ?_))⟩
  have hm1 : JM ns nl nc nd G P W mk eng brk life sl K pn ds V D1 := jm_cg hm n3 n4 (fun i _ => s1.1 i 70 (fun q => q)) (fun r h1 h2 => s1.2.1 r (by omega)) (fun r h1 h2 => s1.2.2 r (fun q => q))
  have hc1 : JC ns nl nc nd G P W mk eng brk aact life sl K (pup pn d p t v) ds V D1 := by
    obtain ⟨a, b, cc, dd, ⟨e1, e2, e3⟩, f⟩ := hc
    exact ⟨jcA a (s1.1 _ _ (fun q => q)) (fun i r h1 h2 h3 h4 => s1.1 i r (fun q => q)) (s1.2.1 _ (by omega)), jcB b (fun i r h1 h2 h3 h4 => s1.1 i r (fun q => q)), jcC cc (s1.2.1 _ (by omega)) (fun r hr => s1.2.2 r (fun q => q)), jcD dd n3 (fun i r h1 h2 h3 => s1.1 i r (fun q => q)) (fun r h1 h2 => s1.2.1 r (by omega)), ⟨fun d' hd' => (s1.1 _ _ (fun q => q)).trans (e1 d' hd'), fun d' t' hd' ht' => by rw [s1.2.1 _ (by omega)]; exact e2 d' t' hd' ht', x⟩, jcF f (fun i hi => s1.1 i 0 (fun q => q)) (s1.2.1 _ (by omega)) (fun r hr => s1.2.2 r (fun q => q))⟩
  have hm6 := jm_out (v := b64 (pn d p t)) (i := 0) (r := 110) hm1 n3 n4 rfl
  have hc6 := jc_out (v := b64 (pn d p t)) (i := 0) (r := 110) hc1 n1 n3 n4 rfl
  refine ref _ r6 hm6 (fun q2 => absurd (inX e hd (by omega)) q2) (fun _ q2 => absurd (pinOK hp2 ht e2 e3) q2) (fun d' p' t' hd' hp2' ht' e' e2' e3' S' D' r' s' t0 x' => ?_)
  obtain rfl := eqX e e' (by omega) (by omega)
  obtain rfl := eqX e2 e2' (by omega) (by omega)
  obtain rfl := eqX e3 e3' (by omega) (by omega)
  have hc' := jc_cg (D' := D') hc6 n1 n3 n4 (fun i r hr => s'.1 i r (by omega)) (fun r hr => s'.2.1 r (by omega)) (fun r hr => s'.2.2 r (fun q => q))
  refine finB_0 (fin_ok r' t0 (s'.2.2 110 (fun q => q)) rfl (hN _ (JA.js (i := i + 1) (n := n) ⟨r', hl, ?_, hc', ?_⟩)))
  · obtain ⟨a, b, c, dd, e2, f⟩ := jp_next hp hi
    refine ⟨a, b, c, dd, e2, fun d2 hd2 => ⟨fun p2 t2 => ?_, (f d2 hd2).2⟩⟩
    unfold pup
    rw [if_neg (fun q => by have := q.1; omega)]
    exact (f d2 hd2).1 p2 t2
  · obtain ⟨a, b, cc, dd, e2, ⟨f1, f2, f3⟩⟩ := hm6
    exact ⟨⟨(s'.1 _ _ (by omega)).trans a.1, (s'.1 _ _ (by omega)).trans a.2.1, (s'.1 _ _ (by omega)).trans a.2.2.1, (s'.1 _ _ (by omega)).trans a.2.2.2⟩, jmB b (s'.2.1 _ (by omega)) (fun r h1 h2 => s'.2.1 r (by omega)), jmC cc (fun r h1 h2 => s'.2.1 r (by omega)) (s'.2.2 _ (fun q => q)), jmD dd (fun r hr => s'.2.2 r (fun q => q)), jmE e2 n3 (fun r hr => s'.2.1 r (by omega)), ⟨fun d2 hd2 => by rw [s'.2.1 100 (by omega)]; exact f1 d2 hd2, x', fun d2 t2 hd2 ht2 => by rw [s'.2.1 _ (by omega)]; exact f3 d2 t2 hd2 ht2⟩⟩
end DX9
