/-! CALLS THAT CHANGE SOMETHING, side by side: a turn -/
theorem aq_nn (q : Rat) : 0 ≤ aq q := by
  unfold aq
  by_cases c : 0 ≤ q
  · rw [if_pos c]
    exact c
  · rw [if_neg c]
    have := Rat.neg_le_neg (Rat.le_of_lt (Rat.not_le.mp c))
    rw [Rat.neg_zero] at this
    exact this
theorem wsq_nn {G : Nat → Nat → Nat} {act : Nat → Bool} {tns : Nat → Nat → Rat} {W : Nat → Rat} (h : ∀ k, 0 ≤ W k) : ∀ N k, 0 ≤ Wsq G act tns W N k
  | 0, k => h k
  | N + 1, k => by
    show 0 ≤ wnx G act (tns N) (Wsq G act tns W N) k
    have h0 : 0 ≤ Wsq G act tns W N k := wsq_nn h N k
    unfold wnx
    by_cases c : act k = true
    · rw [if_pos c]
      by_cases c1 : G k 0 = 112
      · rw [if_pos c1]
        exact Rat.add_nonneg (Rat.add_nonneg h0 (aq_nn _)) (aq_nn _)
      · rw [if_neg c1]
        exact Rat.add_nonneg (Rat.add_nonneg h0 (aq_nn _)) Rat.le_refl
    · rw [if_neg c]
      exact h0
theorem wsq_0 {G : Nat → Nat → Nat} {act : Nat → Bool} {tns : Nat → Nat → Rat} {W : Nat → Rat} {k : Nat} (h : act k = false) : ∀ N, Wsq G act tns W N k = W k
  | 0 => rfl
  | N + 1 => by
    show wnx G act (tns N) (Wsq G act tns W N) k = W k
    unfold wnx
    rw [if_neg (by rw [h]; decide)]
    exact wsq_0 h N
theorem sq_out {ns nl inp N : Nat} {G : Nat → Nat → Nat} {act : Nat → Bool} {wy : Int} {Ps tns : Nat → Nat → Rat} {mks : Nat → Nat → Int} (hG : GrOK ns nl G) (hi : inp < ns) (hs : Sq G nl act inp wy N Ps tns mks) {s : Nat} (h : ns ≤ s) : ∀ j, j ≤ N → Ps j s = Ps 0 s
  | 0, _ => rfl
  | j + 1, hj => by
    obtain ⟨b1, b2⟩ := hs j (by omega)
    rw [b2]
    show Ps j s + tns j s = Ps 0 s
    rw [sq_out hG hi hs h j (by omega), b1.2.1 s (by omega) (fun k hk _ => by have := (hG.2.2.1 k hk).2.2.2; omega)]
    exact Rat.add_zero _
section TP9
variable {i : Nat} {A E : Nat → Nat} {ls : Nat → List Nat} {ns nl nc nd n : Nat} {G : Nat → Nat → Nat} {P W : Nat → Rat} {mk : Nat → Int} {eng brk aact : Nat → Bool} {life sl : Nat → Nat} {K : Nat → Cm} {pn : Nat → Nat → Nat → Bool} {ds : Nat → Nat} {V : Nat → Nat → Int32} {ol : List Nat} {S S' : Hp} {D D' : Dt} {N : Hp → Prop}

theorem jm_cg2 (h : JM ns nl nc nd G P W mk eng brk life sl K pn ds V D) (h8 : nc ≤ 8) (eF : ∀ i, 543 ≤ i → i < 547 → D'.FI i 70 = D.FI i 70) (eA : ∀ r, 79 ≤ r → r < 400 → D'.AI r = D.AI r) (eJ : ∀ r, 72 ≤ r → r < 94 → D'.AJ r = D.AJ r) : JM ns nl nc nd G P W mk eng brk life sl K pn ds V D' := by
  obtain ⟨a, b, c, d, e, f⟩ := h
  exact ⟨⟨(eF _ (by omega) (by omega)).trans a.1, (eF _ (by omega) (by omega)).trans a.2.1, (eF _ (by omega) (by omega)).trans a.2.2.1, (eF _ (by omega) (by omega)).trans a.2.2.2⟩, jmB b (eA _ (by omega) (by omega)) (fun r h1 h2 => eA r (by omega) (by omega)), jmC c (fun r h1 h2 => eA r (by omega) (by omega)) (eJ _ (by omega) (by omega)), jmD d (fun r hr => eJ r (by omega) (by omega)), jmE e h8 (fun r hr => eA r (by omega) (by omega)), jmF f (fun r hr => eA r (by omega) (by omega))⟩
theorem o_turn {x y : Int32} {Z : Hp → Int32 → Prop} (ja : JA i A E ls ns nl nc nd G P W mk eng brk aact life sl K pn ds V n ol S D) (hi : i < 512) (hN : ∀ S', JS (i + 1) S' (A 0) (A 70) (A 110) (A 111) → N S') (hZ : ∀ S2 k, (isA S2 (A 70) 8 ∧ wX8_turn S2 (A 70) x y (fun S5 b => finP A N k b.toInt64 S5)) → Z S2 k) : wL_turn S (A 0) x y (A 110) Z := by
  obtain ⟨h, hl, hp, hc, hm⟩ := id ja
  have hG := hp.1.1
  have hL := hp.1.2
  obtain ⟨n1, n2, n3, n4⟩ := ja.nl14
  have hn := (jp_n hp hi).2.2
  obtain ⟨hR, hB, hWB, hMB⟩ := hp.2.1
  obtain ⟨hlsl, hcm, hds, -⟩ := hp.2.2.1
  obtain ⟨d1, d2, d3⟩ := hp.2.2.2.1
  have ref : ∀ {S1 D1} (Φ : Hp → Int32 → Prop), Rep A E ls nl nc nd S1 D1 → JM ns nl nc nd G P W mk eng brk life sl K pn ds V D1 → _ → _ → _ → _ → isA S1 (A 70) 8 ∧ wX8_turn S1 (A 70) x y Φ := fun {S1 D1} Φ h1 hm1 k1 k2 k3 k4 => by
    exact ⟨m_is h1, p_turnM (ns := ns) (eng := eng) (brk := brk) (W := W) (mk := mk) (life := life) (pn := pn) (ds := ds) (V := V) h1 hG hL hm1.2.1.1 hm1.1.1 hm1.1.2.1 hm1.1.2.2.2 n4 hm1.2.1.2 (fun k hk => (hm1.2.2.1 k hk).1) (fun k hk => (hm1.2.2.1 k hk).2.1) (fun k hk => ⟨(hm1.2.2.1 k hk).2.2.1, (hlsl k hk).1⟩) hm1.2.2.2.1.1 (fun k hk => (hm1.2.2.1 k hk).2.2.2.2) hm1.2.2.2.1.2 (fun d hd => ⟨hm1.2.2.2.2.2.1 d hd, hds d hd⟩) hm1.2.2.2.2.2.2.1 (fun d t hd ht => hm1.2.2.2.2.2.2.2 d t (by omega) ht) hR hB hMB hWB hn k1 k2 k3 k4⟩
  unfold wL_turn wL_turn_b0
  refine ⟨c_is h, p_turnC (act := actE eng brk) (pn := pn) (ds := ds) (V := V) (W := W) (mk := mk) (life := life) h hc.1.1 hc.1.2.1 hG hL hl.2.2.2.2 hl.1 hl.2.1 hl.2.2.2.1 n4 (fun s hs => hc.1.2.2 s (by omega)) hc.2.2.1.1 hc.2.2.1.2.2.1 (fun k hk => hc.2.2.1.2.2.2 k (by omega)) (fun k hk => by rw [hc.2.2.1.2.2.2 k hk]; exact nb_bI _) (fun k hk => by unfold actE; rw [(d1 k hk).1]; rfl) hc.2.2.1.2.1 (fun k hk => ⟨(hc.2.1 k hk).2.2.1, (hlsl k hk).1⟩) hc.2.2.2.2.1.2.1 (fun d hd => ⟨hc.2.2.2.2.1.1 d hd, hds d hd⟩) hc.2.2.2.2.1.2.2 hR hB hMB hWB hn (fun q => Or.inl ⟨rfl, hZ _ _ (ref _ h hm (fun _ S' D' r' t' => ja.bad hi hN (by decide) r' t') (fun q2 => absurd q2 q) (fun s hs e => absurd (inX e hs (by omega)) q) (fun s hs e => absurd (inX e hs (by omega)) q))⟩) (fun q q3 => Or.inr (Or.inl ⟨rfl, hZ _ _ (ref _ h hm (fun q2 => absurd q q2) (fun _ _ S' D' r' t' => ja.bad hi hN (by decide) r' t') (fun s hs e q4 => absurd q4 q3) (fun s hs e q4 => absurd q4 q3))⟩)) (fun s hs e hy q3 => Or.inr (Or.inr ⟨rfl, hZ _ _ (ref _ h hm (fun q2 => absurd (inX e hs (by omega)) q2) (fun _ q4 => absurd hy q4) (fun _ _ _ _ _ S' D' r' t' => ja.bad hi hN (by decide) r' t') (fun s2 hs2 e2 _ q4 => ?_))⟩)) (fun inp Ps tns mks S1 D1 hs e hy hdr p0 m0 sq r1 s1 v462 v463 v328 v63 vP v60 vW vA v61 v64 vV => out_w r1 (fun S6 r6 => hZ _ _ ?_))⟩
  · obtain rfl := eqX e e2 (by omega) (by omega)
    exact absurd q4 q3
  have hN48 : y.toInt.natAbs ≤ 48 := by omega
  have hns0 : 0 < ns := by omega
  have hw1 : (wayOf y).natAbs ≤ 1 := way_le y
  have inv := sq_inv hG hL hw1 sq (by rw [p0, m0]; exact hR) (by rw [p0]; exact hB) (by rw [m0]; exact hMB) hWB (by have := hn hns0; omega)
  have nact : ∀ k, nl ≤ k → actE eng brk k = false := fun k hk => by
    unfold actE
    rw [(d1 k hk).1]
    rfl
  have hc1 : JC ns nl nc nd G (Ps y.toInt.natAbs) (Wsq G (actE eng brk) tns W y.toInt.natAbs) (mks y.toInt.natAbs) eng (fun k => brk k || bw (Wsq G (actE eng brk) tns W y.toInt.natAbs) life k) (actE eng brk) life sl K pn ds (fun d t => if d < nd then Vsq pn ds Ps tns V y.toInt.natAbs d t else V d t) D1 := by
    obtain ⟨a, b, ⟨c1, c2, c3, c4⟩, d, ⟨e1, e2, e3⟩, f⟩ := hc
    refine ⟨jcA a (s1.1 _ _ (by omega)) (fun i r h1 h2 h3 _ => s1.1 i r (by omega)) (s1.2.1 _ (by rintro (q | q | ⟨d, q1, q2⟩) <;> omega)), fun k hk => ?_, ⟨vP, vW, v60, fun k hk => ?_⟩, jcD d n3 (fun i r h1 h2 h3 => s1.1 i r (by omega)) (fun r h1 h2 => s1.2.1 r (by rintro (q | q | ⟨d, q1, q2⟩) <;> omega)), ⟨fun d hd => (s1.1 _ _ (by omega)).trans (e1 d hd), fun d t hd ht => ?_, fun d p t hd hp ht => ?_⟩, fun k hk => (v64 k hk).trans (c4 k hk), Or.inr ⟨inp, y, Ps, tns, mks, v462, hs, v463, hN48, ⟨sq, fun j hj => ?_⟩, ?_, ?_, rfl⟩⟩
    · obtain ⟨b1, b2, b3, b4⟩ := b k hk
      refine ⟨(s1.1 _ _ (by omega)).trans b1, ?_, (s1.1 _ _ (by omega)).trans b3, (s1.1 _ _ (by omega)).trans b4⟩
      rw [v328 k hk, b2]
      dsimp only
      cases bw (Wsq G (actE eng brk) tns W y.toInt.natAbs) life k <;> cases brk k <;> rfl
    · rw [v63, c4 k hk]
      show (if k < nl ∧ bw (Wsq G (actE eng brk) tns W y.toInt.natAbs) life k = true then (0 : Int32) else bI (eng k && !brk k)) = bI (eng k && !(brk k || bw (Wsq G (actE eng brk) tns W y.toInt.natAbs) life k))
      by_cases c0 : k < nl
      · cases bw (Wsq G (actE eng brk) tns W y.toInt.natAbs) life k with
        | true =>
          rw [if_pos ⟨c0, rfl⟩]
          cases eng k <;> cases brk k <;> rfl
        | false =>
          rw [if_neg (fun q => absurd q.2 (by decide))]
          cases eng k <;> cases brk k <;> rfl
      · rw [if_neg (fun q => c0 q.1), (d1 k (by omega)).1]
        rfl
    · rw [vV d t hd ht]
      dsimp only
      rw [if_pos hd]
    · rw [s1.2.1 _ (by rintro (q | q | ⟨d, q1, q2⟩) <;> omega)]
      exact e3 d p t hd hp ht
    · obtain ⟨w1, w2, w3, w4⟩ := inv j hj
      refine ⟨w1, ⟨n + j, by have := hn hns0; omega, w2⟩, fun k hk _ => ?_⟩
      have := w3 k hk
      unfold Rg
      omega
    · rw [p0]
      exact vA
    · rw [m0]
      exact v61
  have hm1 : JM ns nl nc nd G P W mk eng brk life sl K pn ds V D1 := jm_cg2 hm n3 (fun i h1 h2 => s1.1 i 70 (by omega)) (fun r _ _ => s1.2.1 r (by rintro (q | q | ⟨d, q1, q2⟩) <;> omega)) (fun r _ _ => s1.2.2 r (by omega))
  have hm6 := jm_out (v := (nI (cnt ns (fun s => decide (Ps y.toInt.natAbs s ≠ P s)))).toInt64) (i := 0) (r := 110) hm1 n3 n4 rfl
  have hc6 := jc_out (v := (nI (cnt ns (fun s => decide (Ps y.toInt.natAbs s ≠ P s)))).toInt64) (i := 0) (r := 110) hc1 n1 n3 n4 rfl
  refine ref _ r6 hm6 (fun q2 => absurd (inX e hs (by omega)) q2) (fun _ q4 => absurd hy q4) (fun s2 hs2 e2 _ q4 => ?_) (fun s2 hs2 e2 _ _ => ?_)
  · obtain rfl := eqX e e2 (by omega) (by omega)
    exact absurd hdr q4
  obtain rfl := eqX e e2 (by omega) (by omega)
  refine ⟨Ps, tns, mks, p0, m0, sq, fun S' D' r' s' t0 v88 v72 v93 v91 v240 => ?_⟩
  have hc' := jc_cg (D' := D') hc6 n1 n3 n4 (fun i r hr => s'.1 i r (by omega)) (fun r hr => s'.2.1 r (by omega)) (fun r hr => s'.2.2 r (by omega))
  have hm' : JM ns nl nc nd G (Ps y.toInt.natAbs) (Wsq G (actE eng brk) tns W y.toInt.natAbs) (mks y.toInt.natAbs) eng (fun k => brk k || bw (Wsq G (actE eng brk) tns W y.toInt.natAbs) life k) life sl K pn ds (fun d t => if d < nd then Vsq pn ds Ps tns V y.toInt.natAbs d t else V d t) D' := by
    obtain ⟨a, b, c, d, e', ⟨f1, f2, f3⟩⟩ := hm6
    refine ⟨⟨(s'.1 _ _ (by omega)).trans a.1, (s'.1 _ _ (by omega)).trans a.2.1, (s'.1 _ _ (by omega)).trans a.2.2.1, (s'.1 _ _ (by omega)).trans a.2.2.2⟩, jmB b (s'.2.1 _ (by omega)) (fun r h1 h2 => s'.2.1 r (by omega)), fun k hk => ?_, ⟨v72, v91⟩, jmE e' n3 (fun r hr => s'.2.1 r (by omega)), ⟨fun d hd => by rw [s'.2.1 100 (by omega)]; exact f1 d hd, fun d p t hd hp ht => by rw [s'.2.1 _ (by omega)]; exact f2 d p t hd hp ht, fun d t hd ht => ?_⟩⟩
    · obtain ⟨c1, c2, c3, c4, c5⟩ := c k hk
      exact ⟨(congrFun (s'.2.1 _ (by omega)) _).trans c1, v88 k hk, (congrFun (s'.2.1 _ (by omega)) _).trans c3, (congrFun (s'.2.1 _ (by omega)) _).trans c4, v93 k hk⟩
    · dsimp only
      by_cases c0 : d < nd
      · rw [if_pos c0]
        exact v240 d t c0 ht
      · rw [if_neg c0, s'.2.1 _ (by omega)]
        exact f3 d t hd ht
  have hp' : JP (i + 1) ns nl nc nd G (Ps y.toInt.natAbs) (Wsq G (actE eng brk) tns W y.toInt.natAbs) (mks y.toInt.natAbs) eng (fun k => brk k || bw (Wsq G (actE eng brk) tns W y.toInt.natAbs) life k) (actE eng brk) life sl K pn ds (fun d t => if d < nd then Vsq pn ds Ps tns V y.toInt.natAbs d t else V d t) (n + y.toInt.natAbs) := by
    obtain ⟨a, b, c, d, ⟨e1, e2, e3⟩, f⟩ := hp
    obtain ⟨w1, w2, w3, w4⟩ := inv y.toInt.natAbs (Nat.le_refl _)
    refine ⟨a, ⟨fun k hk ha hr => w1 k hk ?_ hr, w2, w4, w3⟩, c, ⟨fun k hk => ⟨(d1 k hk).1, ?_, nact k hk⟩, fun s hs2 => ?_, fun k => wsq_nn d3 _ k⟩, ⟨fun q => by omega, fun _ => ?_, by omega⟩, fun d hd => ⟨(f d hd).1, fun t => ?_⟩⟩
    · unfold actE at ha ⊢
      dsimp only at ha
      revert ha
      cases eng k <;> cases brk k <;> cases bw (Wsq G (fun k => eng k && !brk k) tns W y.toInt.natAbs) life k <;> intro ha <;> first | rfl | exact absurd ha (by decide)
    · rw [wsq_0 (nact k hk)]
      exact (d1 k hk).2.1
    · rw [sq_out hG hs sq hs2 _ (Nat.le_refl _), p0]
      exact d2 s hs2
    · have := e2 hns0
      omega
    · dsimp only
      rw [if_neg (by omega)]
      exact (f d hd).2 t
  exact fin_ok r' t0 (s'.2.2 110 (by omega)) rfl (hN _ (JA.js (i := i + 1) ⟨r', hl, hp', hc', hm'⟩))
end TP9
