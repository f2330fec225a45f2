/-! CALLS THAT LEAVE ALL AS IT IS, side by side, second part -/
theorem htq_uniq {x : Cm} {part : Nat} {q q' : Rat} (h : HtQ x part q) (h' : HtQ x part q') : q = q' := by
  obtain ⟨i, i1, i2, i3, i4⟩ := h
  obtain ⟨j, j1, j2, j3, j4⟩ := h'
  have e : i = j := by
    rcases Nat.lt_trichotomy i j with c | c | c
    · have := sumN_mono (f := cmL x) (m := i + 1) j (by omega)
      omega
    · exact c
    · have := sumN_mono (f := cmL x) (m := j + 1) i (by omega)
      omega
  rw [i4, j4, e]
section OQ9
variable {i : Nat} {A E : Nat → Nat} {ls : Nat → List Nat} {ns nl nc nd n : Nat} {G : Nat → Nat → Nat} {P W : Nat → Rat} {mk : Nat → Int} {eng brk aact : Nat → Bool} {life sl : Nat → Nat} {K : Nat → Cm} {pn : Nat → Nat → Nat → Bool} {ds : Nat → Nat} {V : Nat → Nat → Int32} {ol : List Nat} {S S' : Hp} {D D' : Dt} {N : Hp → Prop}
theorem JA.camC (h : JA i A E ls ns nl nc nd G P W mk eng brk aact life sl K pn ds V n ol S D) : ∀ c, c < nc → CmC (K c) c D ∧ CmK ns (K c) := fun c hc => ⟨h.2.2.2.1.2.2.2.1 c hc, h.2.2.1.2.2.1.2.1 c hc⟩
theorem JA.camM (h : JA i A E ls ns nl nc nd G P W mk eng brk aact life sl K pn ds V n ol S D) : ∀ c, c < nc → CmM (K c) c D ∧ CmK ns (K c) := fun c hc => ⟨h.2.2.2.2.2.2.2.2.1.1 c hc, h.2.2.1.2.2.1.2.1 c hc⟩
theorem o_ratioOver {x y : Int32} {Z : Hp → Int32 → Prop} (ja : JA i A E ls ns nl nc nd G P W mk eng brk aact life sl K pn ds V n ol S D) (hi : i < 512) (hN : ∀ S', JS (i + 1) S' (A 0) (A 70) (A 110) (A 111) → N S') (hZ : ∀ S2 k, (isA S2 (A 70) 8 ∧ wX8_ratioOver S2 (A 70) x y (fun S5 b => finP A N k b S5)) → Z S2 k) : wL_ratioOver S (A 0) x y (A 110) Z := by
  obtain ⟨h, hl, ⟨⟨hG, hL⟩, -⟩, hc, hm⟩ := id ja
  have h14 := hG.1
  have he : ∀ k, k < nl → D.FI 327 (400 + k) = bI (eng k) := fun k hk => (hc.2.1 k hk).1
  have hb : ∀ k, k < nl → D.FI 328 (400 + k) = bI (brk k) := fun k hk => (hc.2.1 k hk).2.1
  have ref : ∀ {S1 D1} (Φ : Hp → Int64 → Prop), JA i A E ls ns nl nc nd G P W mk eng brk aact life sl K pn ds V n ol S1 D1 →
      (¬ (inR x ns ∧ inR y ns) → ∀ S' D', Rep A E ls nl nc nd S' D' → Thr 1 D1 D' → Φ S' 0) →
      (∀ s inp, s < ns → inp < ns → x = nI s → y = nI inp → drv G nl inp ≠ none → ∀ S' D', Rep A E ls nl nc nd S' D' → Thr 2 D1 D' → Φ S' 0) →
      (∀ s inp, s < ns → inp < ns → x = nI s → y = nI inp → drv G nl inp = none → ∃ B Q, UnV G nl inp brk B ∧ Shr G nl inp (fun k => eng k && !brk k) Q ∧ (B s = true → ∀ S' D', Rep A E ls nl nc nd S' D' → Thr 2 D1 D' → Φ S' 0) ∧ (B s = false → ∀ S' D', Rep A E ls nl nc nd S' D' → Thr 0 D1 D' → Φ S' (pick true (Q s)))) → isA S1 (A 70) 8 ∧ wX8_ratioOver S1 (A 70) x y Φ := fun {S1 D1} Φ j k1 k2 k3 => by
    obtain ⟨h1, -, -, -, hm1⟩ := id j
    unfold wX8_ratioOver wX8_ratioOver_b0
    exact ⟨m_is h1, m_is h1, p_ratioM (ov := true) h1 hG hL hm1.1.1 hm1.2.1.1 hm1.2.1.2 (fun k hk => (hm1.2.2.1 k hk).2.1) (fun k hk => (hm1.2.2.1 k hk).1) k1 k2 k3⟩
  unfold wL_ratioOver wL_ratioOver_b0
  refine ⟨c_is h, p_ratioOverC h hc.1.1 hc.1.2.1 hG hL hl.2.2.2.2 hl.2.1 hc.1.2.2 he hb (fun q => Or.inl ⟨rfl, hZ _ _ (ref _ ja (fun _ S' D' r' t' => ja.bad hi hN (by decide) r' t') (fun s inp hs hi' e e2 => absurd ⟨inX e hs (by omega), inX e2 hi' (by omega)⟩ q) (fun s inp hs hi' e e2 => absurd ⟨inX e hs (by omega), inX e2 hi' (by omega)⟩ q))⟩) (fun s inp hs hi' e e2 hor S1 D1 r1 s1 => Or.inr ⟨rfl, hZ _ _ ?_⟩) (fun s inp Q B hs hi' e e2 ed hB eB hQ S1 D1 r1 s1 => ?_)⟩
  · have j1 := ja.scr r1 (s1.wk (fun _ _ q => q) (fun r q => by omega) (fun r q => by omega))
    refine ref _ j1 (fun q => absurd ⟨inX e hs (by omega), inX e2 hi' (by omega)⟩ q) (fun s' inp' hs' hi2 e' e2' _ S' D' r' t' => j1.bad hi hN (by decide) r' t') (fun s' inp' hs' hi2 e' e2' ed => ?_)
    rw [eqX e2 e2' (by omega) (by omega)] at ed ⊢
    rw [eqX e e' (by omega) (by omega)]
    rcases hor with hor | ⟨-, B, hB, eB⟩
    · exact absurd ed hor
    · obtain ⟨Q, hQ⟩ := shr_ex (inp := inp) hL (fun k => eng k && !brk k)
      exact ⟨B, Q, hB, hQ, fun _ S' D' r' t' => j1.bad hi hN (by decide) r' t', fun q => by rw [eB] at q; exact absurd q (by decide)⟩
  · have j1 := ja.scr r1 (s1.wk (fun _ _ q => q) (fun r q => by omega) (fun r q => by omega))
    refine out_w r1 (fun S6 r6 => hZ _ _ ?_)
    have j6 := j1.out r6
    refine ref _ j6 (fun q => absurd ⟨inX e hs (by omega), inX e2 hi' (by omega)⟩ q) (fun s' inp' hs' hi2 e' e2' q => ?_) (fun s' inp' hs' hi2 e' e2' _ => ?_)
    · rw [eqX e2 e2' (by omega) (by omega)] at q
      exact absurd ed q
    · rw [eqX e2 e2' (by omega) (by omega), eqX e e' (by omega) (by omega)]
      exact ⟨B, Q, hB, hQ, fun q => by rw [eB] at q; exact absurd q (by decide), fun _ S' D' r' t' => j6.good hi hN rfl r' t'⟩
theorem o_ratioUnder {x y : Int32} {Z : Hp → Int32 → Prop} (ja : JA i A E ls ns nl nc nd G P W mk eng brk aact life sl K pn ds V n ol S D) (hi : i < 512) (hN : ∀ S', JS (i + 1) S' (A 0) (A 70) (A 110) (A 111) → N S') (hZ : ∀ S2 k, (isA S2 (A 70) 8 ∧ wX8_ratioUnder S2 (A 70) x y (fun S5 b => finP A N k b S5)) → Z S2 k) : wL_ratioUnder S (A 0) x y (A 110) Z := by
  obtain ⟨h, hl, ⟨⟨hG, hL⟩, -⟩, hc, hm⟩ := id ja
  have h14 := hG.1
  have he : ∀ k, k < nl → D.FI 327 (400 + k) = bI (eng k) := fun k hk => (hc.2.1 k hk).1
  have hb : ∀ k, k < nl → D.FI 328 (400 + k) = bI (brk k) := fun k hk => (hc.2.1 k hk).2.1
  have ref : ∀ {S1 D1} (Φ : Hp → Int64 → Prop), JA i A E ls ns nl nc nd G P W mk eng brk aact life sl K pn ds V n ol S1 D1 →
      (¬ (inR x ns ∧ inR y ns) → ∀ S' D', Rep A E ls nl nc nd S' D' → Thr 1 D1 D' → Φ S' 0) →
      (∀ s inp, s < ns → inp < ns → x = nI s → y = nI inp → drv G nl inp ≠ none → ∀ S' D', Rep A E ls nl nc nd S' D' → Thr 2 D1 D' → Φ S' 0) →
      (∀ s inp, s < ns → inp < ns → x = nI s → y = nI inp → drv G nl inp = none → ∃ B Q, UnV G nl inp brk B ∧ Shr G nl inp (fun k => eng k && !brk k) Q ∧ (B s = true → ∀ S' D', Rep A E ls nl nc nd S' D' → Thr 2 D1 D' → Φ S' 0) ∧ (B s = false → ∀ S' D', Rep A E ls nl nc nd S' D' → Thr 0 D1 D' → Φ S' (pick false (Q s)))) → isA S1 (A 70) 8 ∧ wX8_ratioUnder S1 (A 70) x y Φ := fun {S1 D1} Φ j k1 k2 k3 => by
    obtain ⟨h1, -, -, -, hm1⟩ := id j
    unfold wX8_ratioUnder wX8_ratioUnder_b0
    exact ⟨m_is h1, m_is h1, p_ratioM (ov := false) h1 hG hL hm1.1.1 hm1.2.1.1 hm1.2.1.2 (fun k hk => (hm1.2.2.1 k hk).2.1) (fun k hk => (hm1.2.2.1 k hk).1) k1 k2 k3⟩
  unfold wL_ratioUnder wL_ratioUnder_b0
  refine ⟨c_is h, p_ratioUnderC h hc.1.1 hc.1.2.1 hG hL hl.2.2.2.2 hl.2.1 hc.1.2.2 he hb (fun q => Or.inl ⟨rfl, hZ _ _ (ref _ ja (fun _ S' D' r' t' => ja.bad hi hN (by decide) r' t') (fun s inp hs hi' e e2 => absurd ⟨inX e hs (by omega), inX e2 hi' (by omega)⟩ q) (fun s inp hs hi' e e2 => absurd ⟨inX e hs (by omega), inX e2 hi' (by omega)⟩ q))⟩) (fun s inp hs hi' e e2 hor S1 D1 r1 s1 => Or.inr ⟨rfl, hZ _ _ ?_⟩) (fun s inp Q B hs hi' e e2 ed hB eB hQ S1 D1 r1 s1 => ?_)⟩
  · have j1 := ja.scr r1 (s1.wk (fun _ _ q => q) (fun r q => by omega) (fun r q => by omega))
    refine ref _ j1 (fun q => absurd ⟨inX e hs (by omega), inX e2 hi' (by omega)⟩ q) (fun s' inp' hs' hi2 e' e2' _ S' D' r' t' => j1.bad hi hN (by decide) r' t') (fun s' inp' hs' hi2 e' e2' ed => ?_)
    rw [eqX e2 e2' (by omega) (by omega)] at ed ⊢
    rw [eqX e e' (by omega) (by omega)]
    rcases hor with hor | ⟨-, B, hB, eB⟩
    · exact absurd ed hor
    · obtain ⟨Q, hQ⟩ := shr_ex (inp := inp) hL (fun k => eng k && !brk k)
      exact ⟨B, Q, hB, hQ, fun _ S' D' r' t' => j1.bad hi hN (by decide) r' t', fun q => by rw [eB] at q; exact absurd q (by decide)⟩
  · have j1 := ja.scr r1 (s1.wk (fun _ _ q => q) (fun r q => by omega) (fun r q => by omega))
    refine out_w r1 (fun S6 r6 => hZ _ _ ?_)
    have j6 := j1.out r6
    refine ref _ j6 (fun q => absurd ⟨inX e hs (by omega), inX e2 hi' (by omega)⟩ q) (fun s' inp' hs' hi2 e' e2' q => ?_) (fun s' inp' hs' hi2 e' e2' _ => ?_)
    · rw [eqX e2 e2' (by omega) (by omega)] at q
      exact absurd ed q
    · rw [eqX e2 e2' (by omega) (by omega), eqX e e' (by omega) (by omega)]
      exact ⟨B, Q, hB, hQ, fun q => by rw [eB] at q; exact absurd q (by decide), fun _ S' D' r' t' => j6.good hi hN rfl r' t'⟩
theorem o_slackOfOver {x : Int32} {Z : Hp → Int32 → Prop} (ja : JA i A E ls ns nl nc nd G P W mk eng brk aact life sl K pn ds V n ol S D) (hi : i < 512) (hN : ∀ S', JS (i + 1) S' (A 0) (A 70) (A 110) (A 111) → N S') (hZ : ∀ S2 k, (isA S2 (A 70) 8 ∧ wX8_slackOfOver S2 (A 70) x (fun S5 b => finP A N k b S5)) → Z S2 k) : wL_slackOfOver S (A 0) x (A 110) Z := by
  obtain ⟨h, hl, ⟨⟨hG, hL⟩, -, ⟨hls, -⟩, -⟩, hc, hm⟩ := id ja
  have h14 := hG.1
  have ref : ∀ {S1 D1} (Φ : Hp → Int64 → Prop), JA i A E ls ns nl nc nd G P W mk eng brk aact life sl K pn ds V n ol S1 D1 →
      (¬ inR x ns → ∀ S' D', Rep A E ls nl nc nd S' D' → Thr 1 D1 D' → Φ S' 0) →
      (∀ s, s < ns → x = nI s → ∃ Q, Slk G nl sl Q ∧ ∀ S' D', Rep A E ls nl nc nd S' D' → Thr 0 D1 D' → Φ S' (pick true (Q s))) → isA S1 (A 70) 8 ∧ wX8_slackOfOver S1 (A 70) x Φ := fun {S1 D1} Φ j k1 k3 => by
    obtain ⟨h1, -, -, -, hm1⟩ := id j
    unfold wX8_slackOfOver wX8_slackOfOver_b0
    exact ⟨m_is h1, m_is h1, p_slackOfM (ov := true) h1 hG hL hm1.1.1 hm1.2.1.1 hm1.2.1.2 (fun k hk => ⟨(hm1.2.2.1 k hk).2.2.2.1, (hls k hk).2⟩) k1 k3⟩
  unfold wL_slackOfOver wL_slackOfOver_b0
  refine ⟨c_is h, p_slackOfOverC h hc.1.1 hc.1.2.1 hG hL hl.2.2.2.2 hl.2.1 (fun k hk => ⟨(hc.2.1 k hk).2.2.2, (hls k hk).2⟩) (fun q => ⟨rfl, hZ _ _ (ref _ ja (fun _ S' D' r' t' => ja.bad hi hN (by decide) r' t') (fun s hs e => absurd (inX e hs (by omega)) q))⟩) (fun s Q hs e hQ S1 D1 r1 s1 => ?_)⟩
  have j1 := ja.scr r1 (SamJ.G (s1.wk (fun r q => by omega)))
  refine out_w r1 (fun S6 r6 => hZ _ _ ?_)
  have j6 := j1.out r6
  refine ref _ j6 (fun q => absurd (inX e hs (by omega)) q) (fun s' hs' e' => ⟨Q, hQ, fun S' D' r' t' => j6.good hi hN ?_ r' t'⟩)
  rw [eqX e e' (by omega) (by omega)]
  rfl
theorem o_slackOfUnder {x : Int32} {Z : Hp → Int32 → Prop} (ja : JA i A E ls ns nl nc nd G P W mk eng brk aact life sl K pn ds V n ol S D) (hi : i < 512) (hN : ∀ S', JS (i + 1) S' (A 0) (A 70) (A 110) (A 111) → N S') (hZ : ∀ S2 k, (isA S2 (A 70) 8 ∧ wX8_slackOfUnder S2 (A 70) x (fun S5 b => finP A N k b S5)) → Z S2 k) : wL_slackOfUnder S (A 0) x (A 110) Z := by
  obtain ⟨h, hl, ⟨⟨hG, hL⟩, -, ⟨hls, -⟩, -⟩, hc, hm⟩ := id ja
  have h14 := hG.1
  have ref : ∀ {S1 D1} (Φ : Hp → Int64 → Prop), JA i A E ls ns nl nc nd G P W mk eng brk aact life sl K pn ds V n ol S1 D1 →
      (¬ inR x ns → ∀ S' D', Rep A E ls nl nc nd S' D' → Thr 1 D1 D' → Φ S' 0) →
      (∀ s, s < ns → x = nI s → ∃ Q, Slk G nl sl Q ∧ ∀ S' D', Rep A E ls nl nc nd S' D' → Thr 0 D1 D' → Φ S' (pick false (Q s))) → isA S1 (A 70) 8 ∧ wX8_slackOfUnder S1 (A 70) x Φ := fun {S1 D1} Φ j k1 k3 => by
    obtain ⟨h1, -, -, -, hm1⟩ := id j
    unfold wX8_slackOfUnder wX8_slackOfUnder_b0
    exact ⟨m_is h1, m_is h1, p_slackOfM (ov := false) h1 hG hL hm1.1.1 hm1.2.1.1 hm1.2.1.2 (fun k hk => ⟨(hm1.2.2.1 k hk).2.2.2.1, (hls k hk).2⟩) k1 k3⟩
  unfold wL_slackOfUnder wL_slackOfUnder_b0
  refine ⟨c_is h, p_slackOfUnderC h hc.1.1 hc.1.2.1 hG hL hl.2.2.2.2 hl.2.1 (fun k hk => ⟨(hc.2.1 k hk).2.2.2, (hls k hk).2⟩) (fun q => ⟨rfl, hZ _ _ (ref _ ja (fun _ S' D' r' t' => ja.bad hi hN (by decide) r' t') (fun s hs e => absurd (inX e hs (by omega)) q))⟩) (fun s Q hs e hQ S1 D1 r1 s1 => ?_)⟩
  have j1 := ja.scr r1 (SamJ.G (s1.wk (fun r q => by omega)))
  refine out_w r1 (fun S6 r6 => hZ _ _ ?_)
  have j6 := j1.out r6
  refine ref _ j6 (fun q => absurd (inX e hs (by omega)) q) (fun s' hs' e' => ⟨Q, hQ, fun S' D' r' t' => j6.good hi hN ?_ r' t'⟩)
  rw [eqX e e' (by omega) (by omega)]
  rfl
theorem o_heightOver {x : Int32} {Z : Hp → Int32 → Prop} (ja : JA i A E ls ns nl nc nd G P W mk eng brk aact life sl K pn ds V n ol S D) (hi : i < 512) (hN : ∀ S', JS (i + 1) S' (A 0) (A 70) (A 110) (A 111) → N S') (hZ : ∀ S2 k, (isA S2 (A 70) 8 ∧ wX8_heightOver S2 (A 70) x (fun S5 b => finP A N k b S5)) → Z S2 k) : wL_heightOver S (A 0) x (A 110) Z := by
  obtain ⟨h, hl, ⟨⟨hG, hL⟩, ⟨-, hB, -⟩, -⟩, hc, hm⟩ := id ja
  have h8 := ja.nl14.2.2.1
  have hn := (jp_n ja.2.2.1 hi).2.1
  have ref : ∀ {S1 D1} (Φ : Hp → Int64 → Prop), JA i A E ls ns nl nc nd G P W mk eng brk aact life sl K pn ds V n ol S1 D1 →
      (¬ inR x nc → ∀ S' D', Rep A E ls nl nc nd S' D' → Thr 1 D1 D' → Φ S' 0) →
      (∀ c, c < nc → x = nI c → sumN (cmL (K c)) (cmN (K c)) ≠ 24 → ∀ S' D', Rep A E ls nl nc nd S' D' → Thr 2 D1 D' → Φ S' 0) →
      (∀ c q, c < nc → x = nI c → sumN (cmL (K c)) (cmN (K c)) = 24 → HtQ (K c) (prt P (cmS (K c))) q → ∀ S' D', Rep A E ls nl nc nd S' D' → Thr 0 D1 D' → Φ S' (pick true q)) → isA S1 (A 70) 8 ∧ wX8_heightOver S1 (A 70) x Φ := fun {S1 D1} Φ j k1 k2 k3 => by
    obtain ⟨h1, -, -, -, hm1⟩ := id j
    unfold wX8_heightOver wX8_heightOver_b0
    exact ⟨m_is h1, m_is h1, p_heightM (ov := true) h1 hG hm1.1.2.2.1 h8 j.camM hm1.2.2.2.1.1 hB hn k1 k2 k3⟩
  unfold wL_heightOver wL_heightOver_b0
  refine ⟨c_is h, p_heightOverC h hG hl.2.2.1 h8 ja.camC hc.2.2.1.1 hB hn (fun q => Or.inl ⟨rfl, hZ _ _ (ref _ ja (fun _ S' D' r' t' => ja.bad hi hN (by decide) r' t') (fun c hc' e => absurd (inX e hc' (by omega)) q) (fun c q' hc' e => absurd (inX e hc' (by omega)) q))⟩) (fun c hc' e cs => Or.inr ⟨rfl, hZ _ _ (ref _ ja (fun q => absurd (inX e hc' (by omega)) q) (fun _ _ _ _ S' D' r' t' => ja.bad hi hN (by decide) r' t') (fun c' q' hc2 e' cs' => ?_))⟩) (fun c q S1 hc' e cs hq r1 => ?_)⟩
  · rw [eqX e e' (by omega) (by omega)] at cs'
    exact absurd cs' cs
  · have j1 := ja.rp r1
    refine out_w r1 (fun S6 r6 => hZ _ _ ?_)
    have j6 := j1.out r6
    refine ref _ j6 (fun q => absurd (inX e hc' (by omega)) q) (fun c' hc2 e' q => ?_) (fun c' q' hc2 e' cs' hq' S' D' r' t' => j6.good hi hN ?_ r' t')
    · rw [eqX e e' (by omega) (by omega)] at q
      exact absurd cs q
    · rw [eqX e e' (by omega) (by omega)] at hq'
      rw [htq_uniq hq' hq]
      rfl
theorem o_heightUnder {x : Int32} {Z : Hp → Int32 → Prop} (ja : JA i A E ls ns nl nc nd G P W mk eng brk aact life sl K pn ds V n ol S D) (hi : i < 512) (hN : ∀ S', JS (i + 1) S' (A 0) (A 70) (A 110) (A 111) → N S') (hZ : ∀ S2 k, (isA S2 (A 70) 8 ∧ wX8_heightUnder S2 (A 70) x (fun S5 b => finP A N k b S5)) → Z S2 k) : wL_heightUnder S (A 0) x (A 110) Z := by
  obtain ⟨h, hl, ⟨⟨hG, hL⟩, ⟨-, hB, -⟩, -⟩, hc, hm⟩ := id ja
  have h8 := ja.nl14.2.2.1
  have hn := (jp_n ja.2.2.1 hi).2.1
  have ref : ∀ {S1 D1} (Φ : Hp → Int64 → Prop), JA i A E ls ns nl nc nd G P W mk eng brk aact life sl K pn ds V n ol S1 D1 →
      (¬ inR x nc → ∀ S' D', Rep A E ls nl nc nd S' D' → Thr 1 D1 D' → Φ S' 0) →
      (∀ c, c < nc → x = nI c → sumN (cmL (K c)) (cmN (K c)) ≠ 24 → ∀ S' D', Rep A E ls nl nc nd S' D' → Thr 2 D1 D' → Φ S' 0) →
      (∀ c q, c < nc → x = nI c → sumN (cmL (K c)) (cmN (K c)) = 24 → HtQ (K c) (prt P (cmS (K c))) q → ∀ S' D', Rep A E ls nl nc nd S' D' → Thr 0 D1 D' → Φ S' (pick false q)) → isA S1 (A 70) 8 ∧ wX8_heightUnder S1 (A 70) x Φ := fun {S1 D1} Φ j k1 k2 k3 => by
    obtain ⟨h1, -, -, -, hm1⟩ := id j
    unfold wX8_heightUnder wX8_heightUnder_b0
    exact ⟨m_is h1, m_is h1, p_heightM (ov := false) h1 hG hm1.1.2.2.1 h8 j.camM hm1.2.2.2.1.1 hB hn k1 k2 k3⟩
  unfold wL_heightUnder wL_heightUnder_b0
  refine ⟨c_is h, p_heightUnderC h hG hl.2.2.1 h8 ja.camC hc.2.2.1.1 hB hn (fun q => Or.inl ⟨rfl, hZ _ _ (ref _ ja (fun _ S' D' r' t' => ja.bad hi hN (by decide) r' t') (fun c hc' e => absurd (inX e hc' (by omega)) q) (fun c q' hc' e => absurd (inX e hc' (by omega)) q))⟩) (fun c hc' e cs => Or.inr ⟨rfl, hZ _ _ (ref _ ja (fun q => absurd (inX e hc' (by omega)) q) (fun _ _ _ _ S' D' r' t' => ja.bad hi hN (by decide) r' t') (fun c' q' hc2 e' cs' => ?_))⟩) (fun c q S1 hc' e cs hq r1 => ?_)⟩
  · rw [eqX e e' (by omega) (by omega)] at cs'
    exact absurd cs' cs
  · have j1 := ja.rp r1
    refine out_w r1 (fun S6 r6 => hZ _ _ ?_)
    have j6 := j1.out r6
    refine ref _ j6 (fun q => absurd (inX e hc' (by omega)) q) (fun c' hc2 e' q => ?_) (fun c' q' hc2 e' cs' hq' S' D' r' t' => j6.good hi hN ?_ r' t')
    · rw [eqX e e' (by omega) (by omega)] at q
      exact absurd cs q
    · rw [eqX e e' (by omega) (by omega)] at hq'
      rw [htq_uniq hq' hq]
      rfl
theorem o_steepOver {x : Int32} {Z : Hp → Int32 → Prop} (ja : JA i A E ls ns nl nc nd G P W mk eng brk aact life sl K pn ds V n ol S D) (hi : i < 512) (hN : ∀ S', JS (i + 1) S' (A 0) (A 70) (A 110) (A 111) → N S') (hZ : ∀ S2 k, (isA S2 (A 70) 8 ∧ wX8_steepOver S2 (A 70) x (fun S5 b => finP A N k b S5)) → Z S2 k) : wL_steepOver S (A 0) x (A 110) Z := by
  obtain ⟨h, hl, -, hc, hm⟩ := id ja
  have h8 := ja.nl14.2.2.1
  have ref : ∀ {S1 D1} (Φ : Hp → Int64 → Prop), JA i A E ls ns nl nc nd G P W mk eng brk aact life sl K pn ds V n ol S1 D1 →
      (¬ inR x nc → ∀ S' D', Rep A E ls nl nc nd S' D' → Thr 1 D1 D' → Φ S' 0) →
      (∀ c, c < nc → x = nI c → sumN (cmL (K c)) (cmN (K c)) ≠ 24 → ∀ S' D', Rep A E ls nl nc nd S' D' → Thr 2 D1 D' → Φ S' 0) →
      (∀ c, c < nc → x = nI c → sumN (cmL (K c)) (cmN (K c)) = 24 → ∀ S' D', Rep A E ls nl nc nd S' D' → Thr 0 D1 D' → Φ S' (pick true (stq (K c)))) → isA S1 (A 70) 8 ∧ wX8_steepOver S1 (A 70) x Φ := fun {S1 D1} Φ j k1 k2 k3 => by
    obtain ⟨h1, -, -, -, hm1⟩ := id j
    unfold wX8_steepOver wX8_steepOver_b0
    exact ⟨m_is h1, m_is h1, p_steepM (ov := true) h1 hm1.1.2.2.1 h8 j.camM k1 k2 k3⟩
  unfold wL_steepOver wL_steepOver_b0
  refine ⟨c_is h, p_steepOverC h hl.2.2.1 h8 ja.camC (fun q => Or.inl ⟨rfl, hZ _ _ (ref _ ja (fun _ S' D' r' t' => ja.bad hi hN (by decide) r' t') (fun c hc' e => absurd (inX e hc' (by omega)) q) (fun c hc' e => absurd (inX e hc' (by omega)) q))⟩) (fun c hc' e cs => Or.inr ⟨rfl, hZ _ _ (ref _ ja (fun q => absurd (inX e hc' (by omega)) q) (fun _ _ _ _ S' D' r' t' => ja.bad hi hN (by decide) r' t') (fun c' hc2 e' cs' => ?_))⟩) (fun c S1 hc' e cs r1 => ?_)⟩
  · rw [eqX e e' (by omega) (by omega)] at cs'
    exact absurd cs' cs
  · have j1 := ja.rp r1
    refine out_w r1 (fun S6 r6 => hZ _ _ ?_)
    have j6 := j1.out r6
    refine ref _ j6 (fun q => absurd (inX e hc' (by omega)) q) (fun c' hc2 e' q => ?_) (fun c' hc2 e' cs' S' D' r' t' => j6.good hi hN ?_ r' t')
    · rw [eqX e e' (by omega) (by omega)] at q
      exact absurd cs q
    · rw [eqX e e' (by omega) (by omega)]
      rfl
theorem o_steepUnder {x : Int32} {Z : Hp → Int32 → Prop} (ja : JA i A E ls ns nl nc nd G P W mk eng brk aact life sl K pn ds V n ol S D) (hi : i < 512) (hN : ∀ S', JS (i + 1) S' (A 0) (A 70) (A 110) (A 111) → N S') (hZ : ∀ S2 k, (isA S2 (A 70) 8 ∧ wX8_steepUnder S2 (A 70) x (fun S5 b => finP A N k b S5)) → Z S2 k) : wL_steepUnder S (A 0) x (A 110) Z := by
  obtain ⟨h, hl, -, hc, hm⟩ := id ja
  have h8 := ja.nl14.2.2.1
  have ref : ∀ {S1 D1} (Φ : Hp → Int64 → Prop), JA i A E ls ns nl nc nd G P W mk eng brk aact life sl K pn ds V n ol S1 D1 →
      (¬ inR x nc → ∀ S' D', Rep A E ls nl nc nd S' D' → Thr 1 D1 D' → Φ S' 0) →
      (∀ c, c < nc → x = nI c → sumN (cmL (K c)) (cmN (K c)) ≠ 24 → ∀ S' D', Rep A E ls nl nc nd S' D' → Thr 2 D1 D' → Φ S' 0) →
      (∀ c, c < nc → x = nI c → sumN (cmL (K c)) (cmN (K c)) = 24 → ∀ S' D', Rep A E ls nl nc nd S' D' → Thr 0 D1 D' → Φ S' (pick false (stq (K c)))) → isA S1 (A 70) 8 ∧ wX8_steepUnder S1 (A 70) x Φ := fun {S1 D1} Φ j k1 k2 k3 => by
    obtain ⟨h1, -, -, -, hm1⟩ := id j
    unfold wX8_steepUnder wX8_steepUnder_b0
    exact ⟨m_is h1, m_is h1, p_steepM (ov := false) h1 hm1.1.2.2.1 h8 j.camM k1 k2 k3⟩
  unfold wL_steepUnder wL_steepUnder_b0
  refine ⟨c_is h, p_steepUnderC h hl.2.2.1 h8 ja.camC (fun q => Or.inl ⟨rfl, hZ _ _ (ref _ ja (fun _ S' D' r' t' => ja.bad hi hN (by decide) r' t') (fun c hc' e => absurd (inX e hc' (by omega)) q) (fun c hc' e => absurd (inX e hc' (by omega)) q))⟩) (fun c hc' e cs => Or.inr ⟨rfl, hZ _ _ (ref _ ja (fun q => absurd (inX e hc' (by omega)) q) (fun _ _ _ _ S' D' r' t' => ja.bad hi hN (by decide) r' t') (fun c' hc2 e' cs' => ?_))⟩) (fun c S1 hc' e cs r1 => ?_)⟩
  · rw [eqX e e' (by omega) (by omega)] at cs'
    exact absurd cs' cs
  · have j1 := ja.rp r1
    refine out_w r1 (fun S6 r6 => hZ _ _ ?_)
    have j6 := j1.out r6
    refine ref _ j6 (fun q => absurd (inX e hc' (by omega)) q) (fun c' hc2 e' q => ?_) (fun c' hc2 e' cs' S' D' r' t' => j6.good hi hN ?_ r' t')
    · rw [eqX e e' (by omega) (by omega)] at q
      exact absurd cs q
    · rw [eqX e e' (by omega) (by omega)]
      rfl
end OQ9
