/-! CALLS THAT CHANGE SOMETHING, side by side: parts of what is kept -/
section KP9
variable {i : Nat} {A E : Nat → Nat} {ls : Nat → List Nat} {ns nl nc nd n : Nat} {G : Nat → Nat → Nat} {P W : Nat → Rat} {mk : Nat → Int} {eng brk aact : Nat → Bool} {life sl : Nat → Nat} {K : Nat → Cm} {pn : Nat → Nat → Nat → Bool} {ds : Nat → Nat} {V : Nat → Nat → Int32} {ol : List Nat} {S S' : Hp} {D D' : Dt} {N : Hp → Prop}

theorem jcA (h : D.FI 461 0 = nI ns ∧ LkC G nl D ∧ DrA G nl 14 5 D) (e0 : D'.FI 461 0 = D.FI 461 0) (eF : ∀ i r, 320 ≤ i → i < 327 → 400 ≤ r → r < 400 + nl → D'.FI i r = D.FI i r) (eA : D'.AI 5 = D.AI 5) : D'.FI 461 0 = nI ns ∧ LkC G nl D' ∧ DrA G nl 14 5 D' := by
  refine ⟨e0.trans h.1, fun k hk => ?_, drA_cg h.2.2 eA⟩
  rw [eF 320 _ (by omega) (by omega) (by omega) (by omega), eF 321 _ (by omega) (by omega) (by omega) (by omega), eF 322 _ (by omega) (by omega) (by omega) (by omega), eF 323 _ (by omega) (by omega) (by omega) (by omega), eF 324 _ (by omega) (by omega) (by omega) (by omega), eF 325 _ (by omega) (by omega) (by omega) (by omega), eF 326 _ (by omega) (by omega) (by omega) (by omega)]
  exact h.2.1 k hk
theorem jcB (h : ∀ k, k < nl → D.FI 327 (400 + k) = bI (eng k) ∧ D.FI 328 (400 + k) = bI (brk k) ∧ D.FI 329 (400 + k) = nI (life k) ∧ D.FI 330 (400 + k) = nI (sl k)) (eF : ∀ i r, 327 ≤ i → i < 331 → 400 ≤ r → r < 400 + nl → D'.FI i r = D.FI i r) : ∀ k, k < nl → D'.FI 327 (400 + k) = bI (eng k) ∧ D'.FI 328 (400 + k) = bI (brk k) ∧ D'.FI 329 (400 + k) = nI (life k) ∧ D'.FI 330 (400 + k) = nI (sl k) := fun k hk => by
  rw [eF 327 _ (by omega) (by omega) (by omega) (by omega), eF 328 _ (by omega) (by omega) (by omega) (by omega), eF 329 _ (by omega) (by omega) (by omega) (by omega), eF 330 _ (by omega) (by omega) (by omega) (by omega)]
  exact h k hk
theorem jcC (h : RowV D 2 14 P ∧ RowV D 1 16 W ∧ (∀ k, k < nl → D.AJ 60 k = i6 (mk k)) ∧ (∀ k, k < 16 → D.AI 63 k = bI (actE eng brk k))) (eA : D'.AI 63 = D.AI 63) (eJ : ∀ r, (32 ≤ r ∧ r < 36) ∨ r = 60 → D'.AJ r = D.AJ r) : RowV D' 2 14 P ∧ RowV D' 1 16 W ∧ (∀ k, k < nl → D'.AJ 60 k = i6 (mk k)) ∧ (∀ k, k < 16 → D'.AI 63 k = bI (actE eng brk k)) :=
  ⟨rowV_other h.1 (eJ _ (by omega)) (eJ _ (by omega)), rowV_other h.2.1 (eJ _ (by omega)) (eJ _ (by omega)), fun k hk => by rw [eJ 60 (by omega)]; exact h.2.2.1 k hk, fun k hk => by rw [eA]; exact h.2.2.2 k hk⟩
theorem jcD (h : ∀ c, c < nc → CmC (K c) c D) (h8 : nc ≤ 8) (eF : ∀ i r, 64 ≤ i → i < 71 → 500 ≤ r → D'.FI i r = D.FI i r) (eA : ∀ r, 500 ≤ r → r < 540 → D'.AI r = D.AI r) : ∀ c, c < nc → CmC (K c) c D' := fun c hc => cmC_cg (h c hc) (fun i hi => eF _ _ (by omega) (by omega) (by omega)) (fun j j1 j2 => eA _ (by omega) (by omega))
theorem jcE (h : (∀ d, d < nd → D.FI 128 (600 + 3 * d) = nI (ds d)) ∧ (∀ d t, d < nd → t < 8 → D.AI (602 + 3 * d) t = V d t) ∧ MskM pn nd D) (eF : ∀ r, 600 ≤ r → D'.FI 128 r = D.FI 128 r) (eA : ∀ r, 600 ≤ r → D'.AI r = D.AI r) : (∀ d, d < nd → D'.FI 128 (600 + 3 * d) = nI (ds d)) ∧ (∀ d t, d < nd → t < 8 → D'.AI (602 + 3 * d) t = V d t) ∧ MskM pn nd D' := by
  refine ⟨fun d hd => ?_, fun d t hd ht => ?_, fun d p t hd hp ht => ?_⟩
  · rw [eF _ (by omega)]
    exact h.1 d hd
  · rw [eA _ (by omega)]
    exact h.2.1 d t hd ht
  · rw [eA _ (by omega)]
    exact h.2.2 d p t hd hp ht
theorem jcF (h : (∀ k, k < 16 → D.AI 64 k = bI (aact k)) ∧ Last G ns nl P aact D) (eF : ∀ i, i = 462 ∨ i = 463 → D'.FI i 0 = D.FI i 0) (eA : D'.AI 64 = D.AI 64) (eJ : ∀ r, r = 40 ∨ r = 41 ∨ r = 61 → D'.AJ r = D.AJ r) : (∀ k, k < 16 → D'.AI 64 k = bI (aact k)) ∧ Last G ns nl P aact D' := ⟨fun k hk => by rw [eA]; exact h.1 k hk, last_cg h.2 (eF _ (by omega)) (eF _ (by omega)) (eJ _ (by omega)) (eJ _ (by omega)) (eJ _ (by omega))⟩
theorem jmB (h : LkM G nl D ∧ DrA G nl ns 79 D) (e79 : D'.AI 79 = D.AI 79) (eA : ∀ r, 81 ≤ r → r < 87 → D'.AI r = D.AI r) : LkM G nl D' ∧ DrA G nl ns 79 D' := ⟨lkM_cg h.1 (fun r _ _ => eA r (by omega) (by omega)), drA_cg h.2 e79⟩
theorem jmC (h : ∀ k, k < nl → D.AI 87 k = bI (!eng k) ∧ D.AI 88 k = bI (brk k) ∧ D.AI 89 k = nI (life k) ∧ D.AI 90 k = nI (sl k) ∧ D.AJ 93 k = i6 (mk k)) (eA : ∀ r, 87 ≤ r → r < 91 → D'.AI r = D.AI r) (eJ : D'.AJ 93 = D.AJ 93) : ∀ k, k < nl → D'.AI 87 k = bI (!eng k) ∧ D'.AI 88 k = bI (brk k) ∧ D'.AI 89 k = nI (life k) ∧ D'.AI 90 k = nI (sl k) ∧ D'.AJ 93 k = i6 (mk k) := fun k hk => by
  rw [eA 87 (by omega) (by omega), eA 88 (by omega) (by omega), eA 89 (by omega) (by omega), eA 90 (by omega) (by omega), eJ]
  exact h k hk
theorem jmD (h : MR D 72 ns P ∧ MR D 91 nl W) (eJ : ∀ r, r = 72 ∨ r = 73 ∨ r = 91 ∨ r = 92 → D'.AJ r = D.AJ r) : MR D' 72 ns P ∧ MR D' 91 nl W := ⟨mr_other h.1 (eJ _ (by omega)) (eJ _ (by omega)), mr_other h.2 (eJ _ (by omega)) (eJ _ (by omega))⟩
theorem jmE (h : (∀ c, c < nc → CmM (K c) c D) ∧ ∀ c, nc ≤ c → c < 8 → D.AI 95 c = 0) (h8 : nc ≤ 8) (eA : ∀ r, r = 94 ∨ r = 95 ∨ (200 ≤ r ∧ r < 240) → D'.AI r = D.AI r) : (∀ c, c < nc → CmM (K c) c D') ∧ ∀ c, nc ≤ c → c < 8 → D'.AI 95 c = 0 := ⟨fun c hc => cmM_cg (h.1 c hc) (by rw [eA 94 (by omega)]) (by rw [eA 95 (by omega)]) (fun r hr => eA r (by omega)), fun c h1 h2 => by rw [eA 95 (by omega)]; exact h.2 c h1 h2⟩
theorem jmF (h : (∀ d, d < nd → D.AI 100 d = nI (ds d)) ∧ PinM pn D ∧ ∀ d t, d < 4 → t < 8 → D.AI (240 + d) t = V d t) (eA : ∀ r, r = 100 ∨ (240 ≤ r ∧ r < 400) → D'.AI r = D.AI r) : (∀ d, d < nd → D'.AI 100 d = nI (ds d)) ∧ PinM pn D' ∧ ∀ d t, d < 4 → t < 8 → D'.AI (240 + d) t = V d t := ⟨fun d hd => by rw [eA 100 (by omega)]; exact h.1 d hd, fun d p t hd hp ht => by rw [eA _ (by omega)]; exact h.2.1 d p t hd hp ht, fun d t hd ht => by rw [eA _ (by omega)]; exact h.2.2 d t hd ht⟩
theorem fin_ok {v b : Int64} {D1 : Dt} (r' : Rep A E ls nl nc nd S D') (t0 : D'.FI 549 70 = 0) (e : D'.AJ 110 = (D1.setAJ 110 0 v).AJ 110) (eb : b = v) (k : N S) : finP A N 0 b S := fin_0 r' t0 (by rw [e, eb]; exact dtAJ_s) k
end KP9
section KQ9
variable {i : Nat} {A E : Nat → Nat} {ls : Nat → List Nat} {ns nl nc nd n : Nat} {G : Nat → Nat → Nat} {P W : Nat → Rat} {mk : Nat → Int} {eng brk aact : Nat → Bool} {life sl : Nat → Nat} {K : Nat → Cm} {pn : Nat → Nat → Nat → Bool} {ds : Nat → Nat} {V : Nat → Nat → Int32} {ol : List Nat} {S S' : Hp} {D D' : Dt} {N : Hp → Prop}

theorem grOK_up (h : GrOK ns nl G) (h1 : ns < 14) : GrOK (ns + 1) nl G := ⟨h1, h.2.1, fun k hk => ⟨(h.2.2.1 k hk).1, by have := (h.2.2.1 k hk).2.1; omega, fun e => by have := (h.2.2.1 k hk).2.2.1 e; omega, by have := (h.2.2.1 k hk).2.2.2; omega⟩, h.2.2.2⟩
theorem last_up {D : Dt} (h : Last G ns nl P aact D) : Last G (ns + 1) nl P aact D := by
  rcases h with h | ⟨inp, y, Ps, tns, mks, h1, h2, h3⟩
  · exact Or.inl h
  · exact Or.inr ⟨inp, y, Ps, tns, mks, h1, by omega, h3⟩
theorem o_shaft {Z : Hp → Int32 → Prop} (ja : JA i A E ls ns nl nc nd G P W mk eng brk aact life sl K pn ds V n ol S D) (hi : i < 512) (hN : ∀ S', JS (i + 1) S' (A 0) (A 70) (A 110) (A 111) → N S') (hZ : ∀ S2 k, (isA S2 (A 70) 8 ∧ wX8_shaft S2 (A 70) (fun S5 b => finP A N k b.toInt64 S5)) → Z S2 k) : wL_shaft S (A 0) (A 110) Z := by
  obtain ⟨h, hl, hp, hc, hm⟩ := id ja
  have hG := hp.1.1
  obtain ⟨n1, n2, n3, n4⟩ := ja.nl14
  unfold wL_shaft wL_shaft_b0
  refine ⟨c_is h, p_shaftC h hc.1.1 hG.1 (fun q => ⟨rfl, hZ _ _ ⟨m_is h, p_shaftM h hm.1.1 hG.1 (fun _ S' D' r' t' => ja.bad hi hN (by decide) r' t') (fun q2 => absurd q2 q)⟩⟩) (fun q S1 D1 r1 s1 v1 => out_w r1 (fun S6 r6 => hZ _ _ ⟨m_is r6, ?_⟩))⟩
  have hG' := grOK_up hG q
  have hc1 : JC (ns + 1) nl nc nd G P W mk eng brk aact life sl K pn ds V D1 := by
    obtain ⟨a, b, c, d, e, f⟩ := hc
    refine ⟨⟨v1, ?_, drA_cg a.2.2 (s1.2.1 5 (fun q => q))⟩, jcB b (fun i r h1 h2 h3 _ => s1.1 i r (by omega)), jcC c (s1.2.1 _ (fun q => q)) (fun r _ => s1.2.2 r (fun q => q)), jcD d n3 (fun i r h1 h2 h3 => s1.1 i r (by omega)) (fun r _ _ => s1.2.1 r (fun q => q)), jcE e (fun r hr => s1.1 _ r (by omega)) (fun r _ => s1.2.1 r (fun q => q)), (jcF f (fun i hi => s1.1 i 0 (by omega)) (s1.2.1 _ (fun q => q)) (fun r _ => s1.2.2 r (fun q => q))).1, last_up (jcF f (fun i hi => s1.1 i 0 (by omega)) (s1.2.1 _ (fun q => q)) (fun r _ => s1.2.2 r (fun q => q))).2⟩
    exact lkC_cg a.2.1 (fun i r h1 h2 => s1.1 i r (by omega))
  have hm1 : JM ns nl nc nd G P W mk eng brk life sl K pn ds V D1 := jm_cg hm n3 n4 (fun i hi => s1.1 i 70 (by omega)) (fun r _ _ => s1.2.1 r (fun q => q)) (fun r _ _ => s1.2.2 r (fun q => q))
  have hm6 := jm_out (v := (nI ns).toInt64) (i := 0) (r := 110) hm1 n3 n4 rfl
  have hc6 := jc_out (v := (nI ns).toInt64) (i := 0) (r := 110) hc1 n1 n3 n4 rfl
  refine p_shaftM r6 hm6.1.1 hG.1 (fun q2 => absurd q q2) (fun _ S' D' r' s' t0 v2 v79 v72 v73 => ?_)
  have hc' := jc_cg (D' := D') hc6 n1 n3 n4 (fun i r hr => s'.1 i r (by omega)) (fun r hr => s'.2.1 r (by omega)) (fun r hr => s'.2.2 r (by omega))
  have hm' : JM (ns + 1) nl nc nd G P W mk eng brk life sl K pn ds V D' := by
    obtain ⟨a, b, c, d, e, f⟩ := hm6
    refine ⟨⟨v2, (s'.1 _ _ (by omega)).trans a.2.1, (s'.1 _ _ (by omega)).trans a.2.2.1, (s'.1 _ _ (by omega)).trans a.2.2.2⟩, ⟨lkM_cg b.1 (fun r h1 h2 => s'.2.1 r (by omega)), fun s hs => ?_⟩, jmC c (fun r h1 h2 => s'.2.1 r (by omega)) (s'.2.2 _ (by omega)), ⟨fun s hs => ?_, mr_other d.2 (s'.2.2 _ (by omega)) (s'.2.2 _ (by omega))⟩, jmE e n3 (fun r hr => s'.2.1 r (by omega)), jmF f (fun r hr => s'.2.1 r (by omega))⟩
    · by_cases c0 : s = ns
      · have : drv G nl s = none := drv_none.mpr (fun k hk => by have := (hG.2.2.1 k hk).2.2.2; omega)
        rw [v79, if_pos c0, this]
      · rw [v79, if_neg c0]
        exact b.2 s (by omega)
    · by_cases c0 : s = ns
      · have e0 : P s = 0 := hp.2.2.2.1.2.1 s (by omega)
        show Fq (D'.AJ 72 s) (D'.AJ 73 s) (P s)
        rw [v72, v73, if_pos c0, if_pos c0, e0]
        exact ⟨rfl, rfl⟩
      · show Fq (D'.AJ 72 s) (D'.AJ 73 s) (P s)
        rw [v72, v73, if_neg c0, if_neg c0]
        exact d.1 s (by omega)
  have hp' : JP (i + 1) (ns + 1) nl nc nd G P W mk eng brk aact life sl K pn ds V n := by
    obtain ⟨⟨a1, a2⟩, b, ⟨c1, c2, c3, c4⟩, ⟨d1, d2, d3⟩, ⟨e1, e2, e3⟩, f⟩ := hp
    refine ⟨⟨hG', a2⟩, b, ⟨c1, fun c hc => ⟨by have := (c2 c hc).1; omega, (c2 c hc).2⟩, fun d hd => by have := c3 d hd; omega, c4⟩, ⟨d1, fun s hs => d2 s (by omega), d3⟩, ⟨fun q => by omega, fun _ => ?_, by omega⟩, f⟩
    by_cases c0 : ns = 0
    · have := e1 c0
      omega
    · have := e2 (by omega)
      omega
  exact fin_ok r' t0 (s'.2.2 110 (by omega)) rfl (hN _ (JA.js (i := i + 1) ⟨r', hl, hp', hc', hm'⟩))
end KQ9
