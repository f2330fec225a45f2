/-! CALLS THAT CHANGE SOMETHING, side by side: links -/
theorem toNat_of {y : Int32} {m : Int} (h : 0 ≤ y.toInt ∧ y.toInt ≤ m) (hm : m < 1000) : y = nI y.toInt.toNat ∧ (y.toInt.toNat : Int) ≤ m := by
  refine ⟨Int32.toInt_inj.mp ?_, by omega⟩
  rw [nI_toInt (by omega)]
  omega
section LP9
variable {i : Nat} {A E : Nat → Nat} {ls : Nat → List Nat} {ns nl nc nd n : Nat} {G : Nat → Nat → Nat} {P W : Nat → Rat} {mk : Nat → Int} {eng brk aact : Nat → Bool} {life sl : Nat → Nat} {K : Nat → Cm} {pn : Nat → Nat → Nat → Bool} {ds : Nat → Nat} {V : Nat → Nat → Int32} {ol : List Nat} {S S' : Hp} {D D' : Dt} {N : Hp → Prop}

theorem o_life {x y : Int32} {Z : Hp → Int32 → Prop} (ja : JA i A E ls ns nl nc nd G P W mk eng brk aact life sl K pn ds V n ol S D) (hi : i < 512) (hN : ∀ S', JS (i + 1) S' (A 0) (A 70) (A 110) (A 111) → N S') (hZ : ∀ S2 k, (isA S2 (A 70) 8 ∧ wX8_life S2 (A 70) x y (fun S5 b => finP A N k b.toInt64 S5)) → Z S2 k) : wL_life S (A 0) x y (A 110) Z := by
  obtain ⟨h, hl, hp, hc, hm⟩ := id ja
  have hG := hp.1.1
  obtain ⟨n1, n2, n3, n4⟩ := ja.nl14
  unfold wL_life wL_life_b0
  refine ⟨c_is h, p_lifeC h hc.1.2.1 hl.1 n1 (fun q => Or.inl ⟨rfl, hZ _ _ ⟨m_is h, p_lifeM h hm.1.2.1 n1 (fun _ S' D' r' t' => ja.bad hi hN (by decide) r' t') (fun q2 => absurd q2 q) (fun s hs e => absurd (inX e hs (by omega)) q)⟩⟩) (fun q q3 => Or.inr ⟨rfl, hZ _ _ ⟨m_is h, p_lifeM h hm.1.2.1 n1 (fun q2 => absurd q q2) (fun _ _ S' D' r' t' => ja.bad hi hN (by decide) r' t') (fun s hs e q4 => absurd q4 q3)⟩⟩) (fun s hs e hy S1 D1 r1 s1 v1 => out_w r1 (fun S6 r6 => hZ _ _ ⟨m_is r6, ?_⟩))⟩
  obtain ⟨y1, y2⟩ := toNat_of hy (by decide)
  have hc1 : JC ns nl nc nd G P W mk eng brk aact (fun k => if k = s then y.toInt.toNat else life k) sl K pn ds V D1 := by
    obtain ⟨a, b, c, d, e', f⟩ := hc
    refine ⟨jcA a (s1.1 _ _ (by omega)) (fun i r h1 h2 h3 _ => s1.1 i r (by omega)) (s1.2.1 _ (fun q => q)), fun k hk => ?_, jcC c (s1.2.1 _ (fun q => q)) (fun r _ => s1.2.2 r (fun q => q)), jcD d n3 (fun i r h1 h2 h3 => s1.1 i r (by omega)) (fun r _ _ => s1.2.1 r (fun q => q)), jcE e' (fun r hr => s1.1 _ r (by omega)) (fun r _ => s1.2.1 r (fun q => q)), jcF f (fun i hi => s1.1 i 0 (by omega)) (s1.2.1 _ (fun q => q)) (fun r _ => s1.2.2 r (fun q => q))⟩
    obtain ⟨b1, b2, b3, b4⟩ := b k hk
    refine ⟨(s1.1 _ _ (by omega)).trans b1, (s1.1 _ _ (by omega)).trans b2, ?_, ?_⟩
    · dsimp only
      by_cases c0 : k = s
      · rw [if_pos c0, c0, v1]
        exact y1
      · rw [if_neg c0]
        exact (s1.1 _ _ (by omega)).trans b3
    · exact (s1.1 _ _ (by omega)).trans b4
  have hm1 : JM ns nl nc nd G P W mk eng brk life sl K pn ds V D1 := jm_cg hm n3 n4 (fun i hi => s1.1 i 70 (by omega)) (fun r _ _ => s1.2.1 r (fun q => q)) (fun r _ _ => s1.2.2 r (fun q => q))
  have hm6 := jm_out (v := (D.FI 329 (400 + s)).toInt64) (i := 0) (r := 110) hm1 n3 n4 rfl
  have hc6 := jc_out (v := (D.FI 329 (400 + s)).toInt64) (i := 0) (r := 110) hc1 n1 n3 n4 rfl
  refine p_lifeM r6 hm6.1.2.1 n1 (fun q2 => absurd (inX e hs (by omega)) q2) (fun _ q4 => absurd hy q4) (fun s2 hs2 e2 _ S' D' r' s' t0 v2 => ?_)
  obtain rfl := eqX e e2 (by omega) (by omega)
  have hc' := jc_cg (D' := D') hc6 n1 n3 n4 (fun i r hr => s'.1 i r (by omega)) (fun r hr => s'.2.1 r (by omega)) (fun r hr => s'.2.2 r (fun q => q))
  have hm' : JM ns nl nc nd G P W mk eng brk (fun k => if k = s2 then y.toInt.toNat else life k) sl K pn ds V D' := by
    obtain ⟨a, b, c, d, e', f⟩ := hm6
    refine ⟨⟨(s'.1 _ _ (by omega)).trans a.1, (s'.1 _ _ (by omega)).trans a.2.1, (s'.1 _ _ (by omega)).trans a.2.2.1, (s'.1 _ _ (by omega)).trans a.2.2.2⟩, jmB b (s'.2.1 _ (by omega)) (fun r h1 h2 => s'.2.1 r (by omega)), fun k hk => ?_, jmD d (fun r hr => s'.2.2 r (fun q => q)), jmE e' n3 (fun r hr => s'.2.1 r (by omega)), jmF f (fun r hr => s'.2.1 r (by omega))⟩
    obtain ⟨c1, c2, c3, c4, c5⟩ := c k hk
    refine ⟨(congrFun (s'.2.1 _ (by omega)) _).trans c1, (congrFun (s'.2.1 _ (by omega)) _).trans c2, ?_, ?_, (congrFun (s'.2.2 _ (fun q => q)) _).trans c5⟩
    · rw [v2]
      dsimp only
      by_cases c0 : k = s2
      · rw [if_pos c0, if_pos c0]
        exact y1
      · rw [if_neg c0, if_neg c0]
        exact c3
    · exact (congrFun (s'.2.1 _ (by omega)) _).trans c4
  have hp' : JP (i + 1) ns nl nc nd G P W mk eng brk aact (fun k => if k = s2 then y.toInt.toNat else life k) sl K pn ds V n := by
    obtain ⟨a, b, ⟨c1, c2⟩, d⟩ := jp_next hp hi
    refine ⟨a, b, ⟨fun k hk => ⟨?_, ?_⟩, c2⟩, d⟩
    · dsimp only
      by_cases c0 : k = s2
      · rw [if_pos c0]
        omega
      · rw [if_neg c0]
        exact (c1 k hk).1
    · exact (c1 k hk).2
  exact fin_ok r' t0 (s'.2.2 110 (fun q => q)) (congrArg Int32.toInt64 ((hm6.2.2.1 s2 hs).2.2.1.trans (hc.2.1 s2 hs).2.2.1.symm)) (hN _ (JA.js (i := i + 1) ⟨r', hl, hp', hc', hm'⟩))
theorem o_slack {x y : Int32} {Z : Hp → Int32 → Prop} (ja : JA i A E ls ns nl nc nd G P W mk eng brk aact life sl K pn ds V n ol S D) (hi : i < 512) (hN : ∀ S', JS (i + 1) S' (A 0) (A 70) (A 110) (A 111) → N S') (hZ : ∀ S2 k, (isA S2 (A 70) 8 ∧ wX8_slack S2 (A 70) x y (fun S5 b => finP A N k b.toInt64 S5)) → Z S2 k) : wL_slack S (A 0) x y (A 110) Z := by
  obtain ⟨h, hl, hp, hc, hm⟩ := id ja
  have hG := hp.1.1
  obtain ⟨n1, n2, n3, n4⟩ := ja.nl14
  unfold wL_slack wL_slack_b0
  refine ⟨c_is h, p_slackC h hc.1.2.1 hl.1 n1 (fun q => Or.inl ⟨rfl, hZ _ _ ⟨m_is h, p_slackM h hm.1.2.1 n1 (fun _ S' D' r' t' => ja.bad hi hN (by decide) r' t') (fun q2 => absurd q2 q) (fun s hs e => absurd (inX e hs (by omega)) q)⟩⟩) (fun q q3 => Or.inr ⟨rfl, hZ _ _ ⟨m_is h, p_slackM h hm.1.2.1 n1 (fun q2 => absurd q q2) (fun _ _ S' D' r' t' => ja.bad hi hN (by decide) r' t') (fun s hs e q4 => absurd q4 q3)⟩⟩) (fun s hs e hy S1 D1 r1 s1 v1 => out_w r1 (fun S6 r6 => hZ _ _ ⟨m_is r6, ?_⟩))⟩
  obtain ⟨y1, y2⟩ := toNat_of hy (by decide)
  have hc1 : JC ns nl nc nd G P W mk eng brk aact life (fun k => if k = s then y.toInt.toNat else sl k) K pn ds V D1 := by
    obtain ⟨a, b, c, d, e', f⟩ := hc
    refine ⟨jcA a (s1.1 _ _ (by omega)) (fun i r h1 h2 h3 _ => s1.1 i r (by omega)) (s1.2.1 _ (fun q => q)), fun k hk => ?_, jcC c (s1.2.1 _ (fun q => q)) (fun r _ => s1.2.2 r (fun q => q)), jcD d n3 (fun i r h1 h2 h3 => s1.1 i r (by omega)) (fun r _ _ => s1.2.1 r (fun q => q)), jcE e' (fun r hr => s1.1 _ r (by omega)) (fun r _ => s1.2.1 r (fun q => q)), jcF f (fun i hi => s1.1 i 0 (by omega)) (s1.2.1 _ (fun q => q)) (fun r _ => s1.2.2 r (fun q => q))⟩
    obtain ⟨b1, b2, b3, b4⟩ := b k hk
    refine ⟨(s1.1 _ _ (by omega)).trans b1, (s1.1 _ _ (by omega)).trans b2, ?_, ?_⟩
    · exact (s1.1 _ _ (by omega)).trans b3
    · dsimp only
      by_cases c0 : k = s
      · rw [if_pos c0, c0, v1]
        exact y1
      · rw [if_neg c0]
        exact (s1.1 _ _ (by omega)).trans b4
  have hm1 : JM ns nl nc nd G P W mk eng brk life sl K pn ds V D1 := jm_cg hm n3 n4 (fun i hi => s1.1 i 70 (by omega)) (fun r _ _ => s1.2.1 r (fun q => q)) (fun r _ _ => s1.2.2 r (fun q => q))
  have hm6 := jm_out (v := (D.FI 330 (400 + s)).toInt64) (i := 0) (r := 110) hm1 n3 n4 rfl
  have hc6 := jc_out (v := (D.FI 330 (400 + s)).toInt64) (i := 0) (r := 110) hc1 n1 n3 n4 rfl
  refine p_slackM r6 hm6.1.2.1 n1 (fun q2 => absurd (inX e hs (by omega)) q2) (fun _ q4 => absurd hy q4) (fun s2 hs2 e2 _ S' D' r' s' t0 v2 => ?_)
  obtain rfl := eqX e e2 (by omega) (by omega)
  have hc' := jc_cg (D' := D') hc6 n1 n3 n4 (fun i r hr => s'.1 i r (by omega)) (fun r hr => s'.2.1 r (by omega)) (fun r hr => s'.2.2 r (fun q => q))
  have hm' : JM ns nl nc nd G P W mk eng brk life (fun k => if k = s2 then y.toInt.toNat else sl k) K pn ds V D' := by
    obtain ⟨a, b, c, d, e', f⟩ := hm6
    refine ⟨⟨(s'.1 _ _ (by omega)).trans a.1, (s'.1 _ _ (by omega)).trans a.2.1, (s'.1 _ _ (by omega)).trans a.2.2.1, (s'.1 _ _ (by omega)).trans a.2.2.2⟩, jmB b (s'.2.1 _ (by omega)) (fun r h1 h2 => s'.2.1 r (by omega)), fun k hk => ?_, jmD d (fun r hr => s'.2.2 r (fun q => q)), jmE e' n3 (fun r hr => s'.2.1 r (by omega)), jmF f (fun r hr => s'.2.1 r (by omega))⟩
    obtain ⟨c1, c2, c3, c4, c5⟩ := c k hk
    refine ⟨(congrFun (s'.2.1 _ (by omega)) _).trans c1, (congrFun (s'.2.1 _ (by omega)) _).trans c2, ?_, ?_, (congrFun (s'.2.2 _ (fun q => q)) _).trans c5⟩
    · exact (congrFun (s'.2.1 _ (by omega)) _).trans c3
    · rw [v2]
      dsimp only
      by_cases c0 : k = s2
      · rw [if_pos c0, if_pos c0]
        exact y1
      · rw [if_neg c0, if_neg c0]
        exact c4
  have hp' : JP (i + 1) ns nl nc nd G P W mk eng brk aact life (fun k => if k = s2 then y.toInt.toNat else sl k) K pn ds V n := by
    obtain ⟨a, b, ⟨c1, c2⟩, d⟩ := jp_next hp hi
    refine ⟨a, b, ⟨fun k hk => ⟨?_, ?_⟩, c2⟩, d⟩
    · exact (c1 k hk).1
    · dsimp only
      by_cases c0 : k = s2
      · rw [if_pos c0]
        omega
      · rw [if_neg c0]
        exact (c1 k hk).2
  exact fin_ok r' t0 (s'.2.2 110 (fun q => q)) (congrArg Int32.toInt64 ((hm6.2.2.1 s2 hs).2.2.2.1.trans (hc.2.1 s2 hs).2.2.2.symm)) (hN _ (JA.js (i := i + 1) ⟨r', hl, hp', hc', hm'⟩))
theorem o_engage {x : Int32} {v : Bool} {Z : Hp → Int32 → Prop} (ja : JA i A E ls ns nl nc nd G P W mk eng brk aact life sl K pn ds V n ol S D) (hi : i < 512) (hN : ∀ S', JS (i + 1) S' (A 0) (A 70) (A 110) (A 111) → N S') (hZ : ∀ S2 k, (isA S2 (A 70) 8 ∧ wX8_engage S2 (A 70) x (bI v) (fun S5 b => finB A N k b S5)) → Z S2 k) : wL_engage S (A 0) x (bI v) (A 110) Z := by
  obtain ⟨h, hl, hp, hc, hm⟩ := id ja
  have hG := hp.1.1
  obtain ⟨n1, n2, n3, n4⟩ := ja.nl14
  have hg : ∀ k, k < nl → G k 0 < 200 := fun k hk => (kOK_lt (hG.2.2.1 k hk).1).1
  have hne : ∀ k, k < nl → D.FI 327 (400 + k) = bI (eng k) := fun k hk => (hc.2.1 k hk).1
  unfold wL_engage wL_engage_b0
  refine ⟨c_is h, p_engageC h hc.1.2.1 hg hl.1 n1 hne (fun k hk => (hc.2.1 k hk).2.1) (fun q => Or.inl ⟨rfl, hZ _ _ ⟨m_is h, p_engageM h hm.2.1.1 hg hm.1.2.1 n1 (fun k hk => (hm.2.2.1 k hk).1) (fun _ S' D' r' t' => finB_t (ja.bad hi hN (by decide) r' t') (by decide)) (fun s hs e => absurd (inX e hs (by omega)) q) (fun s hs e => absurd (inX e hs (by omega)) q)⟩⟩) (fun s hs e q3 => Or.inr ⟨rfl, hZ _ _ ⟨m_is h, p_engageM h hm.2.1.1 hg hm.1.2.1 n1 (fun k hk => (hm.2.2.1 k hk).1) (fun q2 => absurd (inX e hs (by omega)) q2) (fun _ _ _ _ S' D' r' t' => finB_t (ja.bad hi hN (by decide) r' t') (by decide)) (fun s2 hs2 e2 q4 => ?_)⟩⟩) (fun s hs e q7 S1 D1 r1 s1 v1 v63 => outB r1 (fun S6 r6 => hZ _ _ ⟨m_is r6, ?_⟩))⟩
  · obtain rfl := eqX e e2 (by omega) (by omega)
    exact absurd q4 q3
  have hc1 : JC ns nl nc nd G P W mk (fun k => if k = s then v else eng k) brk aact life sl K pn ds V D1 := by
    obtain ⟨a, b, ⟨c1, c2, c3, c4⟩, d, e', f⟩ := hc
    refine ⟨jcA a (s1.1 _ _ (by omega)) (fun i r h1 h2 h3 _ => s1.1 i r (by omega)) (s1.2.1 _ (by decide)), fun k hk => ?_, ⟨rowV_other c1 (s1.2.2 _ (fun q => q)) (s1.2.2 _ (fun q => q)), rowV_other c2 (s1.2.2 _ (fun q => q)) (s1.2.2 _ (fun q => q)), fun k hk => by rw [s1.2.2 _ (fun q => q)]; exact c3 k hk, fun k hk => ?_⟩, jcD d n3 (fun i r h1 h2 h3 => s1.1 i r (by omega)) (fun r _ _ => s1.2.1 r (by omega)), jcE e' (fun r hr => s1.1 _ r (by omega)) (fun r _ => s1.2.1 r (by omega)), jcF f (fun i hi => s1.1 i 0 (by omega)) (s1.2.1 _ (by decide)) (fun r _ => s1.2.2 r (fun q => q))⟩
    · obtain ⟨b1, b2, b3, b4⟩ := b k hk
      refine ⟨?_, (s1.1 _ _ (by omega)).trans b2, (s1.1 _ _ (by omega)).trans b3, (s1.1 _ _ (by omega)).trans b4⟩
      dsimp only
      by_cases c0 : k = s
      · rw [if_pos c0, c0, v1]
      · rw [if_neg c0]
        exact (s1.1 _ _ (by omega)).trans b1
    · rw [v63]
      unfold actE
      dsimp only
      by_cases c0 : k = s
      · rw [if_pos c0, if_pos c0, c0]
      · rw [if_neg c0, if_neg c0]
        exact c4 k hk
  have hm1 : JM ns nl nc nd G P W mk eng brk life sl K pn ds V D1 := jm_cg hm n3 n4 (fun i hi => s1.1 i 70 (by omega)) (fun r _ _ => s1.2.1 r (by omega)) (fun r _ _ => s1.2.2 r (fun q => q))
  have hm6 := jm_out (v := b64 (eng s)) (i := 0) (r := 110) hm1 n3 n4 rfl
  have hc6 := jc_out (v := b64 (eng s)) (i := 0) (r := 110) hc1 n1 n3 n4 rfl
  refine p_engageM r6 hm6.2.1.1 hg hm6.1.2.1 n1 (fun k hk => (hm6.2.2.1 k hk).1) (fun q2 => absurd (inX e hs (by omega)) q2) (fun s2 hs2 e2 q4 => ?_) (fun s2 hs2 e2 _ S' D' r' s' t0 v2 => ?_)
  · obtain rfl := eqX e e2 (by omega) (by omega)
    exact absurd q7 q4
  obtain rfl := eqX e e2 (by omega) (by omega)
  have hc' := jc_cg (D' := D') hc6 n1 n3 n4 (fun i r hr => s'.1 i r (by omega)) (fun r hr => s'.2.1 r (by omega)) (fun r hr => s'.2.2 r (fun q => q))
  have hm' : JM ns nl nc nd G P W mk (fun k => if k = s2 then v else eng k) brk life sl K pn ds V D' := by
    obtain ⟨a, b, c, d, e', f⟩ := hm6
    refine ⟨⟨(s'.1 _ _ (by omega)).trans a.1, (s'.1 _ _ (by omega)).trans a.2.1, (s'.1 _ _ (by omega)).trans a.2.2.1, (s'.1 _ _ (by omega)).trans a.2.2.2⟩, jmB b (s'.2.1 _ (by omega)) (fun r h1 h2 => s'.2.1 r (by omega)), fun k hk => ?_, jmD d (fun r hr => s'.2.2 r (fun q => q)), jmE e' n3 (fun r hr => s'.2.1 r (by omega)), jmF f (fun r hr => s'.2.1 r (by omega))⟩
    obtain ⟨c1, c2, c3, c4, c5⟩ := c k hk
    refine ⟨?_, (congrFun (s'.2.1 _ (by omega)) _).trans c2, (congrFun (s'.2.1 _ (by omega)) _).trans c3, (congrFun (s'.2.1 _ (by omega)) _).trans c4, (congrFun (s'.2.2 _ (fun q => q)) _).trans c5⟩
    rw [v2]
    dsimp only
    by_cases c0 : k = s2
    · rw [if_pos c0, if_pos c0]
    · rw [if_neg c0, if_neg c0]
      exact c1
  have hp' : JP (i + 1) ns nl nc nd G P W mk (fun k => if k = s2 then v else eng k) brk aact life sl K pn ds V n := by
    obtain ⟨a, ⟨b1, b2⟩, c, ⟨d1, d2⟩, e'⟩ := jp_next hp hi
    refine ⟨a, ⟨fun k hk ha hr => b1 k hk ?_ hr, b2⟩, c, ⟨fun k hk => ?_, d2⟩, e'⟩
    · unfold actE at ha ⊢
      dsimp only at ha
      by_cases c0 : k = s2
      · rw [c0, q7] at hr
        exact absurd hr (by decide)
      · rw [if_neg c0] at ha
        exact ha
    · dsimp only
      rw [if_neg (by omega)]
      exact d1 k hk
  refine finB_0 (fin_ok r' t0 (s'.2.2 110 (fun q => q)) rfl (hN _ (JA.js (i := i + 1) ⟨r', hl, hp', hc', hm'⟩)))
theorem o_repair {x : Int32} {Z : Hp → Int32 → Prop} (ja : JA i A E ls ns nl nc nd G P W mk eng brk aact life sl K pn ds V n ol S D) (hi : i < 512) (hN : ∀ S', JS (i + 1) S' (A 0) (A 70) (A 110) (A 111) → N S') (hZ : ∀ S2 k, (isA S2 (A 70) 8 ∧ wX8_repair S2 (A 70) x (fun S5 b => finP A N k b.toInt64 S5)) → Z S2 k) : wL_repair S (A 0) x (A 110) Z := by
  obtain ⟨h, hl, hp, hc, hm⟩ := id ja
  have hG := hp.1.1
  have hL := hp.1.2
  obtain ⟨n1, n2, n3, n4⟩ := ja.nl14
  have hn := (jp_n hp hi).2.1
  have hB := hp.2.1.2.1
  have ref : ∀ {S1 D1} (Φ : Hp → Int32 → Prop), Rep A E ls nl nc nd S1 D1 → JM ns nl nc nd G P W mk eng brk life sl K pn ds V D1 → _ → _ → _ → isA S1 (A 70) 8 ∧ wX8_repair S1 (A 70) x Φ := fun {S1 D1} Φ h1 hm1 k1 k2 k3 => by
    exact ⟨m_is h1, p_repairM h1 hm1.2.1.1 hG hm1.1.2.1 (fun k hk => (hm1.2.2.1 k hk).2.1) hm1.2.2.2.1.1 hB hn hm1.2.2.2.1.2 k1 k2 k3⟩
  unfold wL_repair wL_repair_b0
  refine ⟨c_is h, p_repairC h hc.1.2.1 hG hl.1 (fun k hk => (hc.2.1 k hk).1) (fun k hk => (hc.2.1 k hk).2.1) hc.2.2.1.1 hB hn hc.2.2.1.2.1 (fun q => Or.inl ⟨rfl, hZ _ _ (ref _ h hm (fun _ S' D' r' t' => ja.bad hi hN (by decide) r' t') (fun s hs e => absurd (inX e hs (by omega)) q) (fun s hs e => absurd (inX e hs (by omega)) q))⟩) (fun s hs e q3 => Or.inr ⟨rfl, hZ _ _ (ref _ h hm (fun q2 => absurd (inX e hs (by omega)) q2) (fun _ _ _ _ S' D' r' t' => ja.bad hi hN (by decide) r' t') (fun s2 hs2 e2 q4 => ?_))⟩) (fun s hs e q7 S1 D1 r1 s1 v1 v63 v60 vW => out_w r1 (fun S6 r6 => hZ _ _ ?_))⟩
  · obtain rfl := eqX e e2 (by omega) (by omega)
    rw [q3] at q4
    exact absurd q4 (by decide)
  have hc1 : JC ns nl nc nd G P (vup W s 0) (fun k => if k = s then fl (G s 4 : Nat) (P (G s 1)) else mk k) eng (fun k => if k = s then false else brk k) aact life sl K pn ds V D1 := by
    obtain ⟨a, b, ⟨c1, c2, c3, c4⟩, d, e', f⟩ := hc
    refine ⟨jcA a (s1.1 _ _ (by omega)) (fun i r h1 h2 h3 _ => s1.1 i r (by omega)) (s1.2.1 _ (by decide)), fun k hk => ?_, ⟨rowV_other c1 (s1.2.2 _ (by decide)) (s1.2.2 _ (by decide)), vW, fun k hk => ?_, fun k hk => ?_⟩, jcD d n3 (fun i r h1 h2 h3 => s1.1 i r (by omega)) (fun r _ _ => s1.2.1 r (by omega)), jcE e' (fun r hr => s1.1 _ r (by omega)) (fun r _ => s1.2.1 r (by omega)), jcF f (fun i hi => s1.1 i 0 (by omega)) (s1.2.1 _ (by decide)) (fun r hr => s1.2.2 r (by omega))⟩
    · obtain ⟨b1, b2, b3, b4⟩ := b k hk
      refine ⟨(s1.1 _ _ (by omega)).trans b1, ?_, (s1.1 _ _ (by omega)).trans b3, (s1.1 _ _ (by omega)).trans b4⟩
      dsimp only
      by_cases c0 : k = s
      · rw [if_pos c0, c0, v1]
        rfl
      · rw [if_neg c0]
        exact (s1.1 _ _ (by omega)).trans b2
    · rw [v60]
      dsimp only
      by_cases c0 : k = s
      · rw [if_pos c0, if_pos c0]
      · rw [if_neg c0, if_neg c0]
        exact c3 k hk
    · rw [v63]
      unfold actE
      dsimp only
      by_cases c0 : k = s
      · rw [if_pos c0, if_pos c0, c0]
        cases eng s <;> rfl
      · rw [if_neg c0, if_neg c0]
        exact c4 k hk
  have hm1 : JM ns nl nc nd G P W mk eng brk life sl K pn ds V D1 := jm_cg hm n3 n4 (fun i hi => s1.1 i 70 (by omega)) (fun r _ _ => s1.2.1 r (by omega)) (fun r _ _ => s1.2.2 r (by omega))
  have hm6 := jm_out (v := (nI (cnt nl (fun k => if k = s then false else brk k))).toInt64) (i := 0) (r := 110) hm1 n3 n4 rfl
  have hc6 := jc_out (v := (nI (cnt nl (fun k => if k = s then false else brk k))).toInt64) (i := 0) (r := 110) hc1 n1 n3 n4 rfl
  refine ref _ r6 hm6 (fun q2 => absurd (inX e hs (by omega)) q2) (fun s2 hs2 e2 q4 => ?_) (fun s2 hs2 e2 _ S' D' r' s' t0 v2 v91 v93 => ?_)
  · obtain rfl := eqX e e2 (by omega) (by omega)
    rw [q7] at q4
    exact absurd q4 (by decide)
  obtain rfl := eqX e e2 (by omega) (by omega)
  have hc' := jc_cg (D' := D') hc6 n1 n3 n4 (fun i r hr => s'.1 i r (by omega)) (fun r hr => s'.2.1 r (by omega)) (fun r hr => s'.2.2 r (by omega))
  have hm' : JM ns nl nc nd G P (vup W s2 0) (fun k => if k = s2 then fl (G s2 4 : Nat) (P (G s2 1)) else mk k) eng (fun k => if k = s2 then false else brk k) life sl K pn ds V D' := by
    obtain ⟨a, b, c, d, e', f⟩ := hm6
    refine ⟨⟨(s'.1 _ _ (by omega)).trans a.1, (s'.1 _ _ (by omega)).trans a.2.1, (s'.1 _ _ (by omega)).trans a.2.2.1, (s'.1 _ _ (by omega)).trans a.2.2.2⟩, jmB b (s'.2.1 _ (by omega)) (fun r h1 h2 => s'.2.1 r (by omega)), fun k hk => ?_, ⟨mr_other d.1 (s'.2.2 _ (by omega)) (s'.2.2 _ (by omega)), v91⟩, jmE e' n3 (fun r hr => s'.2.1 r (by omega)), jmF f (fun r hr => s'.2.1 r (by omega))⟩
    obtain ⟨c1, c2, c3, c4, c5⟩ := c k hk
    refine ⟨(congrFun (s'.2.1 _ (by omega)) _).trans c1, v2 k hk, (congrFun (s'.2.1 _ (by omega)) _).trans c3, (congrFun (s'.2.1 _ (by omega)) _).trans c4, ?_⟩
    rw [v93]
    dsimp only
    by_cases c0 : k = s2
    · rw [if_pos c0, if_pos c0]
    · rw [if_neg c0, if_neg c0]
      exact c5
  have hp' : JP (i + 1) ns nl nc nd G P (vup W s2 0) (fun k => if k = s2 then fl (G s2 4 : Nat) (P (G s2 1)) else mk k) eng (fun k => if k = s2 then false else brk k) aact life sl K pn ds V n := by
    obtain ⟨a, ⟨b1, b2, b3, b4⟩, c, ⟨d1, d2, d3⟩, e'⟩ := jp_next hp hi
    refine ⟨a, ⟨fun k hk ha hr => ?_, b2, fun k hk => ?_, fun k hk => ?_⟩, c, ⟨fun k hk => ?_, d2, fun k => ?_⟩, e'⟩
    · dsimp only
      by_cases c0 : k = s2
      · rw [if_pos c0, c0]
        exact Int.le_refl _
      · rw [if_neg c0]
        refine b1 k hk ?_ hr
        unfold actE at ha ⊢
        dsimp only at ha
        rw [if_neg c0] at ha
        exact ha
    · unfold vup
      by_cases c0 : k = s2
      · rw [if_pos c0]
        exact ⟨0, by rw [Rat.zero_mul]; rfl, Nat.zero_le _⟩
      · rw [if_neg c0]
        exact b3 k hk
    · dsimp only
      by_cases c0 : k = s2
      · rw [if_pos c0]
        obtain ⟨M1, M2, M3⟩ := pm_lt hG (G s2 1)
        have hq := qn_le M3 hn
        exact fl_lim2 (bd_bq M1 (hB (G s2 1))) (by omega) M1 (kOK_lt (hG.2.2.1 s2 hs).1).2.1
      · rw [if_neg c0]
        exact b4 k hk
    · unfold vup
      rw [if_neg (by omega)]
      exact d1 k hk
    · unfold vup
      by_cases c0 : k = s2
      · rw [if_pos c0]
        decide
      · rw [if_neg c0]
        exact d3 k
  exact fin_ok r' t0 (s'.2.2 110 (by omega)) rfl (hN _ (JA.js (i := i + 1) ⟨r', hl, hp', hc', hm'⟩))
end LP9
