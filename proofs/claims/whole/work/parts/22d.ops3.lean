/-! CALLS THAT LEAVE ALL AS IT IS, side by side, third part: bars and teeth -/
theorem okN_okB {x1 x2 x3 x4 : Int32} {a b c d : Nat} (h : okN a b c d) (e1 : x1 = nI a) (e2 : x2 = nI b) (e3 : x3 = nI c) (e4 : x4 = nI d) : okB x1 x2 x3 x4 := by
  obtain ⟨h1, h2, h3, h4⟩ := h
  unfold okB
  rw [e1, e2, e3, e4, nI_toInt (by omega), nI_toInt (by omega), nI_toInt (by omega), nI_toInt (by omega)]
  omega
theorem okN_eq {x1 x2 x3 x4 : Int32} {a b c d a' b' c' d' : Nat} (h : okN a b c d) (h' : okN a' b' c' d') (e1 : x1 = nI a) (e2 : x2 = nI b) (e3 : x3 = nI c) (e4 : x4 = nI d) (e1' : x1 = nI a') (e2' : x2 = nI b') (e3' : x3 = nI c') (e4' : x4 = nI d') : a' = a ∧ b' = b ∧ c' = c ∧ d' = d := by
  obtain ⟨h1, h2, h3, h4⟩ := h
  obtain ⟨g1, g2, g3, g4⟩ := h'
  exact ⟨eqX e1 e1' (by omega) (by omega), eqX e2 e2' (by omega) (by omega), eqX e3 e3' (by omega) (by omega), eqX e4 e4' (by omega) (by omega)⟩
theorem okR_of {x1 x2 : Int32} {o u : Nat} (e1 : x1 = nI o) (e2 : x2 = nI u) (h : ¬ okR x1 x2) (h1 : okR x1 x2) : False := h h1
section OR9
variable {i : Nat} {A E : Nat → Nat} {ls : Nat → List Nat} {ns nl nc nd n : Nat} {G : Nat → Nat → Nat} {P W : Nat → Rat} {mk : Nat → Int} {eng brk aact : Nat → Bool} {life sl : Nat → Nat} {K : Nat → Cm} {pn : Nat → Nat → Nat → Bool} {ds : Nat → Nat} {V : Nat → Nat → Int32} {ol : List Nat} {S S' : Hp} {D D' : Dt} {N : Hp → Prop}
theorem o_bars {x1 x2 x3 x4 : Int32} {Z : Hp → Int32 → Prop} (ja : JA i A E ls ns nl nc nd G P W mk eng brk aact life sl K pn ds V n ol S D) (hi : i < 512) (hN : ∀ S', JS (i + 1) S' (A 0) (A 70) (A 110) (A 111) → N S') (hZ : ∀ S2 k, (isA S2 (A 70) 8 ∧ wX8_bars S2 (A 70) x1 x2 x3 x4 (fun S5 b => finP A N k b.toInt64 S5)) → Z S2 k) : wL_bars S (A 0) x1 x2 x3 x4 (A 110) Z := by
  obtain ⟨h, -⟩ := id ja
  unfold wL_bars wL_bars_b0
  refine ⟨c_is h, p_barsC h (fun q => ⟨rfl, hZ _ _ ⟨m_is h, p_barsM h (fun _ S' D' r' t' => ja.bad hi hN (by decide) r' t') (fun a b c d hn e1 e2 e3 e4 => absurd (okN_okB hn e1 e2 e3 e4) q)⟩⟩) (fun a b c d hn e1 e2 e3 e4 S1 r1 => out_w r1 (fun S6 r6 => hZ _ _ ⟨m_is r6, ?_⟩))⟩
  have j6 := (ja.rp r1).out r6
  refine p_barsM r6 (fun q => absurd (okN_okB hn e1 e2 e3 e4) q) (fun a' b' c' d' hn' e1' e2' e3' e4' S' D' r' t' => j6.good hi hN ?_ r' t')
  obtain ⟨rfl, rfl, rfl, rfl⟩ := okN_eq hn hn' e1 e2 e3 e4 e1' e2' e3' e4'
  rfl
theorem o_limitOver {x1 x2 x3 x4 : Int32} {v : Bool} {Z : Hp → Int32 → Prop} (ja : JA i A E ls ns nl nc nd G P W mk eng brk aact life sl K pn ds V n ol S D) (hi : i < 512) (hN : ∀ S', JS (i + 1) S' (A 0) (A 70) (A 110) (A 111) → N S') (hZ : ∀ S2 k, (isA S2 (A 70) 8 ∧ wX8_limitOver S2 (A 70) x1 x2 x3 x4 (bI v) (fun S5 b => finP A N k b S5)) → Z S2 k) : wL_limitOver S (A 0) x1 x2 x3 x4 (bI v) (A 110) Z := by
  obtain ⟨h, -⟩ := id ja
  have ref : ∀ {S1 D1} (Φ : Hp → Int64 → Prop), Rep A E ls nl nc nd S1 D1 → _ → _ → _ → isA S1 (A 70) 8 ∧ wX8_limitOver S1 (A 70) x1 x2 x3 x4 (bI v) Φ := fun {S1 D1} Φ h1 k1 k2 k3 => by
    unfold wX8_limitOver wX8_limitOver_b0
    exact ⟨m_is h1, m_is h1, p_limitM (ov := true) h1 k1 k2 k3⟩
  unfold wL_limitOver wL_limitOver_b0
  refine ⟨c_is h, p_limitOverC h (fun q => Or.inl ⟨rfl, hZ _ _ (ref _ h (fun _ S' D' r' t' => ja.bad hi hN (by decide) r' t') (fun a b c d hn e1 e2 e3 e4 => absurd (okN_okB hn e1 e2 e3 e4) q) (fun a b c d hn e1 e2 e3 e4 => absurd (okN_okB hn e1 e2 e3 e4) q))⟩) (fun a b c d hn e1 e2 e3 e4 tr S1 r1 => Or.inr ⟨rfl, hZ _ _ (ref _ r1 (fun q => absurd (okN_okB hn e1 e2 e3 e4) q) (fun _ _ _ _ _ _ _ _ _ _ S' D' r' t' => (ja.rp r1).bad hi hN (by decide) r' t') (fun a' b' c' d' hn' e1' e2' e3' e4' tr' => ?_))⟩) (fun a b c d hn e1 e2 e3 e4 tr S1 r1 => out_w r1 (fun S6 r6 => hZ _ _ ?_))⟩
  · obtain ⟨rfl, rfl, rfl, rfl⟩ := okN_eq hn hn' e1 e2 e3 e4 e1' e2' e3' e4'
    rw [tr] at tr'
    exact absurd tr' (by decide)
  · have j6 := (ja.rp r1).out r6
    refine ref _ r6 (fun q => absurd (okN_okB hn e1 e2 e3 e4) q) (fun a' b' c' d' hn' e1' e2' e3' e4' tr' => ?_) (fun a' b' c' d' hn' e1' e2' e3' e4' tr' S' D' r' t' => j6.good hi hN ?_ r' t')
    · obtain ⟨rfl, rfl, rfl, rfl⟩ := okN_eq hn hn' e1 e2 e3 e4 e1' e2' e3' e4'
      rw [tr] at tr'
      exact absurd tr' (by decide)
    · obtain ⟨rfl, rfl, rfl, rfl⟩ := okN_eq hn hn' e1 e2 e3 e4 e1' e2' e3' e4'
      rfl
theorem o_limitUnder {x1 x2 x3 x4 : Int32} {v : Bool} {Z : Hp → Int32 → Prop} (ja : JA i A E ls ns nl nc nd G P W mk eng brk aact life sl K pn ds V n ol S D) (hi : i < 512) (hN : ∀ S', JS (i + 1) S' (A 0) (A 70) (A 110) (A 111) → N S') (hZ : ∀ S2 k, (isA S2 (A 70) 8 ∧ wX8_limitUnder S2 (A 70) x1 x2 x3 x4 (bI v) (fun S5 b => finP A N k b S5)) → Z S2 k) : wL_limitUnder S (A 0) x1 x2 x3 x4 (bI v) (A 110) Z := by
  obtain ⟨h, -⟩ := id ja
  have ref : ∀ {S1 D1} (Φ : Hp → Int64 → Prop), Rep A E ls nl nc nd S1 D1 → _ → _ → _ → isA S1 (A 70) 8 ∧ wX8_limitUnder S1 (A 70) x1 x2 x3 x4 (bI v) Φ := fun {S1 D1} Φ h1 k1 k2 k3 => by
    unfold wX8_limitUnder wX8_limitUnder_b0
    exact ⟨m_is h1, m_is h1, p_limitM (ov := false) h1 k1 k2 k3⟩
  unfold wL_limitUnder wL_limitUnder_b0
  refine ⟨c_is h, p_limitUnderC h (fun q => Or.inl ⟨rfl, hZ _ _ (ref _ h (fun _ S' D' r' t' => ja.bad hi hN (by decide) r' t') (fun a b c d hn e1 e2 e3 e4 => absurd (okN_okB hn e1 e2 e3 e4) q) (fun a b c d hn e1 e2 e3 e4 => absurd (okN_okB hn e1 e2 e3 e4) q))⟩) (fun a b c d hn e1 e2 e3 e4 tr S1 r1 => Or.inr ⟨rfl, hZ _ _ (ref _ r1 (fun q => absurd (okN_okB hn e1 e2 e3 e4) q) (fun _ _ _ _ _ _ _ _ _ _ S' D' r' t' => (ja.rp r1).bad hi hN (by decide) r' t') (fun a' b' c' d' hn' e1' e2' e3' e4' tr' => ?_))⟩) (fun a b c d hn e1 e2 e3 e4 tr S1 r1 => out_w r1 (fun S6 r6 => hZ _ _ ?_))⟩
  · obtain ⟨rfl, rfl, rfl, rfl⟩ := okN_eq hn hn' e1 e2 e3 e4 e1' e2' e3' e4'
    rw [tr] at tr'
    exact absurd tr' (by decide)
  · have j6 := (ja.rp r1).out r6
    refine ref _ r6 (fun q => absurd (okN_okB hn e1 e2 e3 e4) q) (fun a' b' c' d' hn' e1' e2' e3' e4' tr' => ?_) (fun a' b' c' d' hn' e1' e2' e3' e4' tr' S' D' r' t' => j6.good hi hN ?_ r' t')
    · obtain ⟨rfl, rfl, rfl, rfl⟩ := okN_eq hn hn' e1 e2 e3 e4 e1' e2' e3' e4'
      rw [tr] at tr'
      exact absurd tr' (by decide)
    · obtain ⟨rfl, rfl, rfl, rfl⟩ := okN_eq hn hn' e1 e2 e3 e4 e1' e2' e3' e4'
      rfl
theorem o_angleOver {x1 x2 x3 x4 : Int32} {v : Bool} {Z : Hp → Int32 → Prop} (ja : JA i A E ls ns nl nc nd G P W mk eng brk aact life sl K pn ds V n ol S D) (hi : i < 512) (hN : ∀ S', JS (i + 1) S' (A 0) (A 70) (A 110) (A 111) → N S') (hZ : ∀ S2 k, (isA S2 (A 70) 8 ∧ wX8_angleOver S2 (A 70) x1 x2 x3 x4 (bI v) (fun S5 b => finP A N k b S5)) → Z S2 k) : wL_angleOver S (A 0) x1 x2 x3 x4 (bI v) (A 110) Z := by
  obtain ⟨h, -⟩ := id ja
  have ref : ∀ {S1 D1} (Φ : Hp → Int64 → Prop), Rep A E ls nl nc nd S1 D1 → _ → _ → _ → isA S1 (A 70) 8 ∧ wX8_angleOver S1 (A 70) x1 x2 x3 x4 (bI v) Φ := fun {S1 D1} Φ h1 k1 k2 k3 => by
    unfold wX8_angleOver wX8_angleOver_b0
    exact ⟨m_is h1, m_is h1, p_angleM (ov := true) h1 k1 k2 k3⟩
  unfold wL_angleOver wL_angleOver_b0
  refine ⟨c_is h, p_angleOverC h (fun q => Or.inl ⟨rfl, hZ _ _ (ref _ h (fun _ S' D' r' t' => ja.bad hi hN (by decide) r' t') (fun a b c d hn e1 e2 e3 e4 => absurd (okN_okB hn e1 e2 e3 e4) q) (fun a b c d hn e1 e2 e3 e4 => absurd (okN_okB hn e1 e2 e3 e4) q))⟩) (fun a b c d hn e1 e2 e3 e4 tr S1 r1 => Or.inr ⟨rfl, hZ _ _ (ref _ r1 (fun q => absurd (okN_okB hn e1 e2 e3 e4) q) (fun _ _ _ _ _ _ _ _ _ _ S' D' r' t' => (ja.rp r1).bad hi hN (by decide) r' t') (fun a' b' c' d' hn' e1' e2' e3' e4' tr' => ?_))⟩) (fun a b c d hn e1 e2 e3 e4 tr S1 r1 => out_w r1 (fun S6 r6 => hZ _ _ ?_))⟩
  · obtain ⟨rfl, rfl, rfl, rfl⟩ := okN_eq hn hn' e1 e2 e3 e4 e1' e2' e3' e4'
    rw [tr] at tr'
    exact absurd tr' (by decide)
  · have j6 := (ja.rp r1).out r6
    refine ref _ r6 (fun q => absurd (okN_okB hn e1 e2 e3 e4) q) (fun a' b' c' d' hn' e1' e2' e3' e4' tr' => ?_) (fun a' b' c' d' hn' e1' e2' e3' e4' tr' S' D' r' t' => j6.good hi hN ?_ r' t')
    · obtain ⟨rfl, rfl, rfl, rfl⟩ := okN_eq hn hn' e1 e2 e3 e4 e1' e2' e3' e4'
      rw [tr] at tr'
      exact absurd tr' (by decide)
    · obtain ⟨rfl, rfl, rfl, rfl⟩ := okN_eq hn hn' e1 e2 e3 e4 e1' e2' e3' e4'
      rfl
theorem o_angleUnder {x1 x2 x3 x4 : Int32} {v : Bool} {Z : Hp → Int32 → Prop} (ja : JA i A E ls ns nl nc nd G P W mk eng brk aact life sl K pn ds V n ol S D) (hi : i < 512) (hN : ∀ S', JS (i + 1) S' (A 0) (A 70) (A 110) (A 111) → N S') (hZ : ∀ S2 k, (isA S2 (A 70) 8 ∧ wX8_angleUnder S2 (A 70) x1 x2 x3 x4 (bI v) (fun S5 b => finP A N k b S5)) → Z S2 k) : wL_angleUnder S (A 0) x1 x2 x3 x4 (bI v) (A 110) Z := by
  obtain ⟨h, -⟩ := id ja
  have ref : ∀ {S1 D1} (Φ : Hp → Int64 → Prop), Rep A E ls nl nc nd S1 D1 → _ → _ → _ → isA S1 (A 70) 8 ∧ wX8_angleUnder S1 (A 70) x1 x2 x3 x4 (bI v) Φ := fun {S1 D1} Φ h1 k1 k2 k3 => by
    unfold wX8_angleUnder wX8_angleUnder_b0
    exact ⟨m_is h1, m_is h1, p_angleM (ov := false) h1 k1 k2 k3⟩
  unfold wL_angleUnder wL_angleUnder_b0
  refine ⟨c_is h, p_angleUnderC h (fun q => Or.inl ⟨rfl, hZ _ _ (ref _ h (fun _ S' D' r' t' => ja.bad hi hN (by decide) r' t') (fun a b c d hn e1 e2 e3 e4 => absurd (okN_okB hn e1 e2 e3 e4) q) (fun a b c d hn e1 e2 e3 e4 => absurd (okN_okB hn e1 e2 e3 e4) q))⟩) (fun a b c d hn e1 e2 e3 e4 tr S1 r1 => Or.inr ⟨rfl, hZ _ _ (ref _ r1 (fun q => absurd (okN_okB hn e1 e2 e3 e4) q) (fun _ _ _ _ _ _ _ _ _ _ S' D' r' t' => (ja.rp r1).bad hi hN (by decide) r' t') (fun a' b' c' d' hn' e1' e2' e3' e4' tr' => ?_))⟩) (fun a b c d hn e1 e2 e3 e4 tr S1 r1 => out_w r1 (fun S6 r6 => hZ _ _ ?_))⟩
  · obtain ⟨rfl, rfl, rfl, rfl⟩ := okN_eq hn hn' e1 e2 e3 e4 e1' e2' e3' e4'
    rw [tr] at tr'
    exact absurd tr' (by decide)
  · have j6 := (ja.rp r1).out r6
    refine ref _ r6 (fun q => absurd (okN_okB hn e1 e2 e3 e4) q) (fun a' b' c' d' hn' e1' e2' e3' e4' tr' => ?_) (fun a' b' c' d' hn' e1' e2' e3' e4' tr' S' D' r' t' => j6.good hi hN ?_ r' t')
    · obtain ⟨rfl, rfl, rfl, rfl⟩ := okN_eq hn hn' e1 e2 e3 e4 e1' e2' e3' e4'
      rw [tr] at tr'
      exact absurd tr' (by decide)
    · obtain ⟨rfl, rfl, rfl, rfl⟩ := okN_eq hn hn' e1 e2 e3 e4 e1' e2' e3' e4'
      rfl
theorem o_pairs {x1 x2 : Int32} {Z : Hp → Int32 → Prop} (ja : JA i A E ls ns nl nc nd G P W mk eng brk aact life sl K pn ds V n ol S D) (hi : i < 512) (hN : ∀ S', JS (i + 1) S' (A 0) (A 70) (A 110) (A 111) → N S') (hZ : ∀ S2 k, (isA S2 (A 70) 8 ∧ wX8_pairs S2 (A 70) x1 x2 (fun S5 b => finP A N k b.toInt64 S5)) → Z S2 k) : wL_pairs S (A 0) x1 x2 (A 110) Z := by
  obtain ⟨h, -⟩ := id ja
  unfold wL_pairs wL_pairs_b0
  refine ⟨c_is h, p_pairsC (fun q => ⟨rfl, hZ _ _ ⟨m_is h, p_pairsM h (fun _ S' D' r' t' => ja.bad hi hN (by decide) r' t') (fun q2 => absurd q2 q)⟩⟩) (fun q => out_w h (fun S6 r6 => hZ _ _ ⟨m_is r6, ?_⟩))⟩
  exact p_pairsM r6 (fun q2 => absurd q q2) (fun _ S' D' r' t' => (ja.out r6).good hi hN rfl r' t')
theorem o_teeth {x1 x2 : Int32} {v : Bool} {Z : Hp → Int32 → Prop} (ja : JA i A E ls ns nl nc nd G P W mk eng brk aact life sl K pn ds V n ol S D) (hi : i < 512) (hN : ∀ S', JS (i + 1) S' (A 0) (A 70) (A 110) (A 111) → N S') (hZ : ∀ S2 k, (isA S2 (A 70) 8 ∧ wX8_teeth S2 (A 70) x1 x2 (bI v) (fun S5 b => finP A N k b.toInt64 S5)) → Z S2 k) : wL_teeth S (A 0) x1 x2 (bI v) (A 110) Z := by
  obtain ⟨h, -⟩ := id ja
  unfold wL_teeth wL_teeth_b0
  refine ⟨c_is h, p_teethC (fun q => ⟨rfl, hZ _ _ ⟨m_is h, p_teethM h (fun _ S' D' r' t' => ja.bad hi hN (by decide) r' t') (fun w => absurd w q)⟩⟩) (fun ok o u f s ho hu e1 e2 tm => out_w h (fun S6 r6 => hZ _ _ ⟨m_is r6, ?_⟩))⟩
  · have j6 := ja.out r6
    refine p_teethM r6 (fun q => absurd ok q) (fun _ o' u' f' s' ho' hu' e1' e2' tm' S' D' r' t' => j6.good hi hN ?_ r' t')
    · have eo := eqX e1 e1' (by omega) (by omega)
      have eu := eqX e2 e2' (by omega) (by omega)
      rw [eo, eu] at tm'
      obtain ⟨rfl, rfl⟩ := tmin_uniq tm tm'
      rfl
end OR9
