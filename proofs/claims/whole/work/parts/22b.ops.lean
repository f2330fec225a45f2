/-! CALLS THAT LEAVE ALL AS IT IS, side by side -/
def JA (i : Nat) (A E : Nat → Nat) (ls : Nat → List Nat) (ns nl nc nd : Nat) (G : Nat → Nat → Nat) (P W : Nat → Rat) (mk : Nat → Int) (eng brk aact : Nat → Bool) (life sl : Nat → Nat) (K : Nat → Cm) (pn : Nat → Nat → Nat → Bool) (ds : Nat → Nat) (V : Nat → Nat → Int32) (n : Nat) (ol : List Nat) (S : Hp) (D : Dt) : Prop :=
  Rep A E ls nl nc nd S D ∧ JL A ls nl nc nd G ol ∧ JP i ns nl nc nd G P W mk eng brk aact life sl K pn ds V n ∧ JC ns nl nc nd G P W mk eng brk aact life sl K pn ds V D ∧ JM ns nl nc nd G P W mk eng brk life sl K pn ds V D
theorem inX {x : Int32} {s n : Nat} (e : x = nI s) (hs : s < n) (hn : n ≤ 1000) : inR x n := by
  rw [e]
  exact inR_nI hs (by omega)
theorem eqX {x : Int32} {s s' : Nat} (e : x = nI s) (e' : x = nI s') (h : s < 100000) (h' : s' < 100000) : s' = s := ((nI_iff (by omega) (by omega)).mp (e'.symm.trans e))
section OP9
variable {i : Nat} {A E : Nat → Nat} {ls : Nat → List Nat} {ns nl nc nd n : Nat} {G : Nat → Nat → Nat} {P W : Nat → Rat} {mk : Nat → Int} {eng brk aact : Nat → Bool} {life sl : Nat → Nat} {K : Nat → Cm} {pn : Nat → Nat → Nat → Bool} {ds : Nat → Nat} {V : Nat → Nat → Int32} {ol : List Nat} {S S' : Hp} {D D' : Dt} {N : Hp → Prop}
theorem JA.js (h : JA i A E ls ns nl nc nd G P W mk eng brk aact life sl K pn ds V n ol S D) : JS i S (A 0) (A 70) (A 110) (A 111) := ⟨A, E, ls, ns, nl, nc, nd, G, P, W, mk, eng, brk, aact, life, sl, K, pn, ds, V, n, ol, D, rfl, rfl, rfl, rfl, h⟩
theorem JA.nl14 (h : JA i A E ls ns nl nc nd G P W mk eng brk aact life sl K pn ds V n ol S D) : nl ≤ 14 ∧ ns ≤ 14 ∧ nc ≤ 8 ∧ nd ≤ 4 := ⟨h.2.2.1.1.1.2.1, h.2.2.1.1.1.1, h.2.2.1.2.2.1.2.2.2.1, h.2.2.1.2.2.1.2.2.2.2⟩
theorem JA.nx (h : JA i A E ls ns nl nc nd G P W mk eng brk aact life sl K pn ds V n ol S D) (hi : i < 512) : JA (i + 1) A E ls ns nl nc nd G P W mk eng brk aact life sl K pn ds V n ol S D := ⟨h.1, h.2.1, jp_next h.2.2.1 hi, h.2.2.2⟩
theorem JA.thr {c : Int32} (h : JA i A E ls ns nl nc nd G P W mk eng brk aact life sl K pn ds V n ol S D) (r : Rep A E ls nl nc nd S' D') (t : Thr c D D') : JA i A E ls ns nl nc nd G P W mk eng brk aact life sl K pn ds V n ol S' D' := ⟨r, h.2.1, h.2.2.1, jc_thr h.2.2.2.1 h.nl14.1 h.nl14.2.2.1 h.nl14.2.2.2 t, jm_thr h.2.2.2.2 h.nl14.2.2.1 h.nl14.2.2.2 t⟩
theorem JA.out {v : Int64} (h : JA i A E ls ns nl nc nd G P W mk eng brk aact life sl K pn ds V n ol S D) (r : Rep A E ls nl nc nd S' (D.setAJ 110 0 v)) : JA i A E ls ns nl nc nd G P W mk eng brk aact life sl K pn ds V n ol S' (D.setAJ 110 0 v) := ⟨r, h.2.1, h.2.2.1, jc_out h.2.2.2.1 h.nl14.1 h.nl14.2.2.1 h.nl14.2.2.2 rfl, jm_out h.2.2.2.2 h.nl14.2.2.1 h.nl14.2.2.2 rfl⟩
theorem JA.rp (h : JA i A E ls ns nl nc nd G P W mk eng brk aact life sl K pn ds V n ol S D) (r : Rep A E ls nl nc nd S' D) : JA i A E ls ns nl nc nd G P W mk eng brk aact life sl K pn ds V n ol S' D := ⟨r, h.2⟩
theorem JA.scr (h : JA i A E ls ns nl nc nd G P W mk eng brk aact life sl K pn ds V n ol S D) (r : Rep A E ls nl nc nd S' D') (s : SamG (fun _ _ => False) (fun r => r = 6 ∨ r = 7 ∨ r = 8 ∨ r = 65) (fun r => r = 30 ∨ r = 31 ∨ (46 ≤ r ∧ r < 52) ∨ r = 62) D D') : JA i A E ls ns nl nc nd G P W mk eng brk aact life sl K pn ds V n ol S' D' := ⟨r, h.2.1, h.2.2.1, jc_cg h.2.2.2.1 h.nl14.1 h.nl14.2.2.1 h.nl14.2.2.2 (fun i r _ => s.1 i r (fun q => q)) (fun r hr => s.2.1 r (by omega)) (fun r hr => s.2.2 r (by omega)), jm_cg h.2.2.2.2 h.nl14.2.2.1 h.nl14.2.2.2 (fun i _ => s.1 i 70 (fun q => q)) (fun r h1 h2 => s.2.1 r (by omega)) (fun r h1 h2 => s.2.2 r (by omega))⟩
theorem JA.bad {c : Int32} {b : Int64} (h : JA i A E ls ns nl nc nd G P W mk eng brk aact life sl K pn ds V n ol S D) (hi : i < 512) (hN : ∀ S', JS (i + 1) S' (A 0) (A 70) (A 110) (A 111) → N S') (hc : ¬ c = 0) (r : Rep A E ls nl nc nd S' D') (t : Thr c D D') : finP A N c b S' := fin_t r t.2 hc (hN _ ((h.thr r t).nx hi).js)
theorem JA.good {v b : Int64} (h : JA i A E ls ns nl nc nd G P W mk eng brk aact life sl K pn ds V n ol S (D.setAJ 110 0 v)) (hi : i < 512) (hN : ∀ S', JS (i + 1) S' (A 0) (A 70) (A 110) (A 111) → N S') (e : b = v) (r : Rep A E ls nl nc nd S' D') (t : Thr 0 (D.setAJ 110 0 v) D') : finP A N 0 b S' := fin_0 r t.2 (by rw [t.AJ, e]; exact dtAJ_s) (hN _ ((h.thr r t).nx hi).js)
/-- the same, where the answer is a truth -/
def finB (A : Nat → Nat) (N : Hp → Prop) (k : Int32) (b : Int32) (S : Hp) : Prop := isA S (A 70) 8 ∧ wX8_thrown S (A 70) (fun S6 r7 => ((r7 = k → ((¬ k = 0 → N S6) ∧ (k = 0 → isA S6 (A 110) 22 ∧ vp_in 0 (S6.N (A 110)) ∧ ((b = 0 → ((lg_cmp (S6.AJ (A 110) ((0 : Int32).toNatClampNeg)) 0) = 0 → N S6) ∧ (¬ ((lg_cmp (S6.AJ (A 110) ((0 : Int32).toNatClampNeg)) 0) = 0) → False)) ∧ (¬ (b = 0) → ((lg_cmp (S6.AJ (A 110) ((0 : Int32).toNatClampNeg)) 1) = 0 → N S6) ∧ (¬ ((lg_cmp (S6.AJ (A 110) ((0 : Int32).toNatClampNeg)) 1) = 0) → False)))))) ∧ (¬ (r7 = k) → False)))
def b64 (b : Bool) : Int64 := if b then 1 else 0
theorem finB_t {k : Int32} {b : Int32} (h : finP A N k 0 S) (hk : ¬ k = 0) : finB A N k b S := by
  unfold finP wX8_thrown wX8_thrown_b0 at h
  unfold finB wX8_thrown wX8_thrown_b0
  refine ⟨h.1, h.2.1, fun e => ⟨fun _ => (h.2.2.1 e).1 hk, fun q => absurd q hk⟩, h.2.2.2⟩
theorem finB_0 {b : Bool} (h : finP A N 0 (b64 b) S) : finB A N 0 (bI b) S := by
  unfold finP wX8_thrown wX8_thrown_b0 at h
  unfold finB wX8_thrown wX8_thrown_b0
  refine ⟨h.1, h.2.1, fun e => ⟨fun q => absurd rfl q, fun q => ?_⟩, h.2.2.2⟩
  obtain ⟨z1, z2, z3⟩ := (h.2.2.1 e).2 q
  refine ⟨z1, z2, ?_⟩
  cases b with
  | false => exact if_p rfl z3
  | true => exact if_n (by decide) z3
/-- a truth is put down -/
theorem outB {Z : Hp → Prop} {b : Bool} (h : Rep A E ls nl nc nd S D) (k : ∀ S', Rep A E ls nl nc nd S' (D.setAJ 110 0 (b64 b)) → Z S') : (bI b = 0 → isA S (A 110) 22 ∧ vp_in 0 (S.N (A 110)) ∧ ∀ S7, S7 = S.setAJ (A 110) ((0 : Int32).toNatClampNeg) 0 → Z S7) ∧ (¬ bI b = 0 → isA S (A 110) 22 ∧ vp_in 0 (S.N (A 110)) ∧ ∀ S7, S7 = S.setAJ (A 110) ((0 : Int32).toNatClampNeg) 1 → Z S7) := by
  cases b with
  | false => exact if_p rfl (out_w h k)
  | true => exact if_n (by decide) (out_w h k)
theorem o_placeOver {x : Int32} {Z : Hp → Int32 → Prop} (ja : JA i A E ls ns nl nc nd G P W mk eng brk aact life sl K pn ds V n ol S D) (hi : i < 512) (hN : ∀ S', JS (i + 1) S' (A 0) (A 70) (A 110) (A 111) → N S') (hZ : ∀ S2 k, (isA S2 (A 70) 8 ∧ wX8_placeOver S2 (A 70) x (fun S5 b => finP A N k b S5)) → Z S2 k) : wL_placeOver S (A 0) x (A 110) Z := by
  obtain ⟨h, hl, ⟨⟨hG, hL⟩, -⟩, hc, hm⟩ := id ja
  unfold wL_placeOver wL_placeOver_b0
  refine ⟨c_is h, p_placeOverC h hG.1 hc.1.1 (fun q => ⟨rfl, hZ _ _ ⟨m_is h, p_placeOverM h hG.1 hm.1.1 (fun _ S' D' r' t' => ja.bad hi hN (by decide) r' t') (fun s hs e => absurd (inX e hs (by have := hG.1; omega)) q)⟩⟩) (fun s hs e => out_w h (fun S6 r6 => hZ _ _ ⟨m_is r6, ?_⟩))⟩
  have j6 := ja.out r6
  refine p_placeOverM r6 hG.1 hm.1.1 (fun q => absurd (inX e hs (by have := hG.1; omega)) q) (fun s' hs' e' S' D' r' t' => j6.good hi hN ?_ r' t')
  have := hG.1
  rw [eqX e e' (by omega) (by omega), (j6.2.2.2.2.2.2.2.1.1 s hs).1, (hc.2.2.1.1 s (by omega)).1]
theorem o_placeUnder {x : Int32} {Z : Hp → Int32 → Prop} (ja : JA i A E ls ns nl nc nd G P W mk eng brk aact life sl K pn ds V n ol S D) (hi : i < 512) (hN : ∀ S', JS (i + 1) S' (A 0) (A 70) (A 110) (A 111) → N S') (hZ : ∀ S2 k, (isA S2 (A 70) 8 ∧ wX8_placeUnder S2 (A 70) x (fun S5 b => finP A N k b S5)) → Z S2 k) : wL_placeUnder S (A 0) x (A 110) Z := by
  obtain ⟨h, hl, ⟨⟨hG, hL⟩, -⟩, hc, hm⟩ := id ja
  unfold wL_placeUnder wL_placeUnder_b0
  refine ⟨c_is h, p_placeUnderC h hG.1 hc.1.1 (fun q => ⟨rfl, hZ _ _ ⟨m_is h, p_placeUnderM h hG.1 hm.1.1 (fun _ S' D' r' t' => ja.bad hi hN (by decide) r' t') (fun s hs e => absurd (inX e hs (by have := hG.1; omega)) q)⟩⟩) (fun s hs e => out_w h (fun S6 r6 => hZ _ _ ⟨m_is r6, ?_⟩))⟩
  have j6 := ja.out r6
  refine p_placeUnderM r6 hG.1 hm.1.1 (fun q => absurd (inX e hs (by have := hG.1; omega)) q) (fun s' hs' e' S' D' r' t' => j6.good hi hN ?_ r' t')
  have := hG.1
  rw [eqX e e' (by omega) (by omega), (j6.2.2.2.2.2.2.2.1.1 s hs).2, (hc.2.2.1.1 s (by omega)).2]
theorem o_wornOver {x : Int32} {Z : Hp → Int32 → Prop} (ja : JA i A E ls ns nl nc nd G P W mk eng brk aact life sl K pn ds V n ol S D) (hi : i < 512) (hN : ∀ S', JS (i + 1) S' (A 0) (A 70) (A 110) (A 111) → N S') (hZ : ∀ S2 k, (isA S2 (A 70) 8 ∧ wX8_wornOver S2 (A 70) x (fun S5 b => finP A N k b S5)) → Z S2 k) : wL_wornOver S (A 0) x (A 110) Z := by
  obtain ⟨h, hl, ⟨⟨hG, hL⟩, -⟩, hc, hm⟩ := id ja
  have h14 := hG.2.1
  unfold wL_wornOver wL_wornOver_b0
  refine ⟨c_is h, p_wornOverC h hl.1 h14 (fun q => ⟨rfl, hZ _ _ ⟨m_is h, p_wornOverM h hm.1.2.1 h14 (fun _ S' D' r' t' => ja.bad hi hN (by decide) r' t') (fun s hs e => absurd (inX e hs (by omega)) q)⟩⟩) (fun s hs e => out_w h (fun S6 r6 => hZ _ _ ⟨m_is r6, ?_⟩))⟩
  have j6 := ja.out r6
  refine p_wornOverM r6 hm.1.2.1 h14 (fun q => absurd (inX e hs (by omega)) q) (fun s' hs' e' S' D' r' t' => j6.good hi hN ?_ r' t')
  rw [eqX e e' (by omega) (by omega), (j6.2.2.2.2.2.2.2.1.2 s hs).1, (hc.2.2.1.2.1 s (by omega)).1]
theorem o_wornUnder {x : Int32} {Z : Hp → Int32 → Prop} (ja : JA i A E ls ns nl nc nd G P W mk eng brk aact life sl K pn ds V n ol S D) (hi : i < 512) (hN : ∀ S', JS (i + 1) S' (A 0) (A 70) (A 110) (A 111) → N S') (hZ : ∀ S2 k, (isA S2 (A 70) 8 ∧ wX8_wornUnder S2 (A 70) x (fun S5 b => finP A N k b S5)) → Z S2 k) : wL_wornUnder S (A 0) x (A 110) Z := by
  obtain ⟨h, hl, ⟨⟨hG, hL⟩, -⟩, hc, hm⟩ := id ja
  have h14 := hG.2.1
  unfold wL_wornUnder wL_wornUnder_b0
  refine ⟨c_is h, p_wornUnderC h hl.1 h14 (fun q => ⟨rfl, hZ _ _ ⟨m_is h, p_wornUnderM h hm.1.2.1 h14 (fun _ S' D' r' t' => ja.bad hi hN (by decide) r' t') (fun s hs e => absurd (inX e hs (by omega)) q)⟩⟩) (fun s hs e => out_w h (fun S6 r6 => hZ _ _ ⟨m_is r6, ?_⟩))⟩
  have j6 := ja.out r6
  refine p_wornUnderM r6 hm.1.2.1 h14 (fun q => absurd (inX e hs (by omega)) q) (fun s' hs' e' S' D' r' t' => j6.good hi hN ?_ r' t')
  rw [eqX e e' (by omega) (by omega), (j6.2.2.2.2.2.2.2.1.2 s hs).2, (hc.2.2.1.2.1 s (by omega)).2]
theorem o_driver {x : Int32} {Z : Hp → Int32 → Prop} (ja : JA i A E ls ns nl nc nd G P W mk eng brk aact life sl K pn ds V n ol S D) (hi : i < 512) (hN : ∀ S', JS (i + 1) S' (A 0) (A 70) (A 110) (A 111) → N S') (hZ : ∀ S2 k, (isA S2 (A 70) 8 ∧ wX8_driver S2 (A 70) x (fun S5 b => finP A N k b.toInt64 S5)) → Z S2 k) : wL_driver S (A 0) x (A 110) Z := by
  obtain ⟨h, hl, ⟨⟨hG, hL⟩, -⟩, hc, hm⟩ := id ja
  have h14 := hG.1
  unfold wL_driver wL_driver_b0
  refine ⟨c_is h, p_driverC h hG hc.1.1 hc.1.2.2 (fun q => Or.inl ⟨rfl, hZ _ _ ⟨m_is h, p_driverM h hG hm.1.1 hm.2.1.2 (fun _ S' D' r' t' => ja.bad hi hN (by decide) r' t') (fun s hs e => absurd (inX e hs (by omega)) q) (fun s k hs e => absurd (inX e hs (by omega)) q)⟩⟩) (fun s hs e ed => Or.inr ⟨rfl, hZ _ _ ⟨m_is h, p_driverM h hG hm.1.1 hm.2.1.2 (fun q => absurd (inX e hs (by omega)) q) (fun s' hs' e' _ S' D' r' t' => ja.bad hi hN (by decide) r' t') (fun s' k hs' e' ek => ?_)⟩⟩) (fun s k hs e ek => out_w h (fun S6 r6 => hZ _ _ ⟨m_is r6, ?_⟩))⟩
  · rw [eqX e e' (by omega) (by omega), ed] at ek
    exact absurd ek (fun q => by cases q)
  · have j6 := ja.out r6
    refine p_driverM r6 hG hm.1.1 (drA_cg hm.2.1.2 rfl) (fun q => absurd (inX e hs (by omega)) q) (fun s' hs' e' ed => ?_) (fun s' k' hs' e' ek' S' D' r' t' => j6.good hi hN ?_ r' t')
    · rw [eqX e e' (by omega) (by omega), ek] at ed
      exact absurd ed (fun q => by cases q)
    · rw [eqX e e' (by omega) (by omega), ek] at ek'
      rw [Option.some.inj ek']
theorem o_isBroken {x : Int32} {Z : Hp → Int32 → Prop} (ja : JA i A E ls ns nl nc nd G P W mk eng brk aact life sl K pn ds V n ol S D) (hi : i < 512) (hN : ∀ S', JS (i + 1) S' (A 0) (A 70) (A 110) (A 111) → N S') (hZ : ∀ S2 k, (isA S2 (A 70) 8 ∧ wX8_isBroken S2 (A 70) x (fun S5 b => finB A N k b S5)) → Z S2 k) : wL_isBroken S (A 0) x (A 110) Z := by
  obtain ⟨h, hl, ⟨⟨hG, hL⟩, -⟩, hc, hm⟩ := id ja
  have h14 := hG.2.1
  unfold wL_isBroken wL_isBroken_b0
  refine ⟨c_is h, p_isBrokenC h hc.1.2.1 hl.1 h14 (fun k hk => (hc.2.1 k hk).2.1) (fun q => ⟨rfl, hZ _ _ ⟨m_is h, p_isBrokenM h hm.1.2.1 h14 (fun k hk => (hm.2.2.1 k hk).2.1) (fun _ S' D' r' t' => finB_t (ja.bad hi hN (by decide) r' t') (by decide)) (fun s hs e => absurd (inX e hs (by omega)) q)⟩⟩) (fun s hs e => outB h (fun S6 r6 => hZ _ _ ⟨m_is r6, ?_⟩))⟩
  have j6 := ja.out r6
  refine p_isBrokenM r6 hm.1.2.1 h14 (fun k hk => (hm.2.2.1 k hk).2.1) (fun q => absurd (inX e hs (by omega)) q) (fun s' hs' e' S' D' r' t' => ?_)
  rw [eqX e e' (by omega) (by omega)]
  exact finB_0 (j6.good hi hN rfl r' t')
theorem o_struck {x y : Int32} {Z : Hp → Int32 → Prop} (ja : JA i A E ls ns nl nc nd G P W mk eng brk aact life sl K pn ds V n ol S D) (hi : i < 512) (hN : ∀ S', JS (i + 1) S' (A 0) (A 70) (A 110) (A 111) → N S') (hZ : ∀ S2 k, (isA S2 (A 70) 8 ∧ wX8_struck S2 (A 70) x y (fun S5 b => finP A N k b.toInt64 S5)) → Z S2 k) : wL_struck S (A 0) x y (A 110) Z := by
  obtain ⟨h, hl, ⟨⟨hG, hL⟩, -⟩, hc, hm⟩ := id ja
  have h4 := ja.nl14.2.2.2
  unfold wL_struck wL_struck_b0
  refine ⟨c_is h, p_struckC h hl.2.2.2.1 h4 (fun q => Or.inl ⟨rfl, hZ _ _ ⟨m_is h, p_struckM h hm.1.2.2.2 h4 (fun _ S' D' r' t' => ja.bad hi hN (by decide) r' t') (fun z => absurd z q) (fun d t hd ht e => absurd (inX e hd (by omega)) q)⟩⟩) (fun z q => Or.inr ⟨rfl, hZ _ _ ⟨m_is h, p_struckM h hm.1.2.2.2 h4 (fun w => absurd z w) (fun _ _ S' D' r' t' => ja.bad hi hN (by decide) r' t') (fun d t hd ht e e2 => absurd ⟨by rw [e2, nI_toInt (by omega)]; omega, by rw [e2, nI_toInt (by omega)]; omega⟩ q)⟩⟩) (fun d t hd ht e e2 => out_w h (fun S6 r6 => hZ _ _ ⟨m_is r6, ?_⟩))⟩
  have j6 := ja.out r6
  refine p_struckM r6 hm.1.2.2.2 h4 (fun q => absurd (inX e hd (by omega)) q) (fun _ q => absurd ⟨by rw [e2, nI_toInt (by omega)]; omega, by rw [e2, nI_toInt (by omega)]; omega⟩ q) (fun d' t' hd' ht' e' e2' S' D' r' tt => j6.good hi hN ?_ r' tt)
  rw [eqX e e' (by omega) (by omega), eqX e2 e2' (by omega) (by omega)]
  show (D.AI (240 + d) t).toInt64 = _
  rw [hm.2.2.2.2.2.2.2 d t (by omega) ht, hc.2.2.2.2.1.2.1 d t hd ht]
end OP9
