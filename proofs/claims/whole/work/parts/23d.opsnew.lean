/-! CALLS THAT CHANGE SOMETHING, side by side: a new link -/
theorem ctr_gx {G : Nat → Nat → Nat} {nl k : Nat} {g : Nat → Nat} {tn P : Nat → Rat} {m : Int} (h : k < nl) : ctr (gx G nl g) k tn P m = ctr G k tn P m := by
  unfold ctr
  rw [gx_n h]
theorem mkn_gx {G : Nat → Nat → Nat} {nl k : Nat} {g : Nat → Nat} {q : Rat} {m : Int} (h : k < nl) : mkn (gx G nl g) k q m = mkn G k q m := by
  unfold mkn
  rw [gx_n h]
section LX9
variable {i : Nat} {A E : Nat → Nat} {ls : Nat → List Nat} {ns nl nc nd n : Nat} {G : Nat → Nat → Nat} {P W : Nat → Rat} {mk : Nat → Int} {eng brk aact : Nat → Bool} {life sl : Nat → Nat} {K : Nat → Cm} {pn : Nat → Nat → Nat → Bool} {ds : Nat → Nat} {V : Nat → Nat → Int32} {ol : List Nat} {S S' : Hp} {D D' : Dt} {N : Hp → Prop}

theorem finA {A' : Nat → Nat} {k : Int32} {b : Int64} (e1 : A' 70 = A 70) (e2 : A' 110 = A 110) (h : finP A' N k b S) : finP A N k b S := by
  unfold finP at h ⊢
  rw [e1, e2] at h
  exact h
theorem last_ext {g : Nat → Nat} (hG : GrOK ns nl G) (hG' : GrOK ns (nl + 1) (gx G nl g)) (hd : drv G nl (g 3) = none) (ha : aact nl = false) (h : Last G ns nl P aact D) : Last (gx G nl g) ns (nl + 1) P aact D := by
  rcases h with h | ⟨inp, y, Ps, tns, mks, h1, h2, h3, h4, ⟨h5, h6⟩, h7, h8, h9⟩
  · exact Or.inl h
  · have hne : ∀ k, k < nl + 1 → aact k = true → k < nl := fun k hk q => by
      by_cases c : k = nl
      · rw [c, ha] at q
        exact absurd q (by decide)
      · omega
    have e : ∀ j k, k < nl → (fun k => if k = nl then (D.AJ 61 nl).toInt else mks j k) k = mks j k := fun j k hk => if_neg (by omega)
    refine Or.inr ⟨inp, y, Ps, tns, fun j k => if k = nl then (D.AJ 61 nl).toInt else mks j k, h1, h2, h3, h4, ⟨fun j hj => ?_, fun j hj => ?_⟩, h7, fun k hk => ?_, h9⟩
    · obtain ⟨⟨b1, b2, b3, b4⟩, b5⟩ := h5 j hj
      refine ⟨⟨b1, fun s hs hk => b2 s hs (fun k hk2 q => by have := hk k (by omega) q; rw [gx_n hk2] at this; exact this), fun k hk q => ?_, fun k hk => ?_⟩, b5⟩
      · have hk2 := hne k hk q
        obtain ⟨c1, c2, c3⟩ := b3 k hk2 q
        dsimp only
        rw [if_neg (by omega), if_neg (by omega), ctr_gx hk2, mkn_gx hk2, gx_n hk2]
        exact ⟨c1, c2, c3⟩
      · dsimp only
        by_cases c : k = nl
        · rw [if_pos c, if_pos c]
        · rw [if_neg c, if_neg c]
          exact b4 k (fun q => hk ⟨by omega, q.2⟩)
    · obtain ⟨c1, ⟨m, c2, c3⟩, c4⟩ := h6 j hj
      refine ⟨fun k hk q hr => ?_, ⟨m, c2, bdP_ext hG hG' hd c3⟩, fun k hk q => ?_⟩
      · have hk2 := hne k hk q
        dsimp only
        rw [gx_n hk2] at hr ⊢
        rw [if_neg (by omega)]
        exact c1 k hk2 q hr
      · have hk2 := hne k hk q
        dsimp only
        rw [if_neg (by omega)]
        exact c4 k hk2 q
    · dsimp only
      by_cases c : k = nl
      · rw [if_pos c, c, i6_to]
      · rw [if_neg c]
        exact h8 k (by omega)
theorem lnk_no {S1 : Hp} {A' : Nat → Nat} {D1 : Dt} (ja : JA i A E ls ns nl nc nd G P W mk eng brk aact life sl K pn ds V n ol S D) (x : LnkNo A E ls nl nc nd D S1 A' D1) : JA i A' E ls ns nl nc nd G P W mk eng brk aact life sl K pn ds V n ol S1 D1 ∧ A' 0 = A 0 ∧ A' 70 = A 70 ∧ A' 110 = A 110 ∧ A' 111 = A 111 := by
  obtain ⟨h, hl, hp, hc, hm⟩ := id ja
  obtain ⟨n1, n2, n3, n4⟩ := ja.nl14
  obtain ⟨xA, r1, s1⟩ := x
  refine ⟨⟨r1, ⟨?_, ?_, ?_, ?_, hl.2.2.2.2⟩, hp, ?_, jm_cg hm n3 n4 (fun i _ => s1.1 i 70 (by omega)) (fun r h1 h2 => s1.2.1 r (by omega)) (fun r h1 h2 => s1.2.2 r (by omega))⟩, xA _ (al_s (by decide)), xA _ (al_s (by decide)), xA _ (al_s (by decide)), xA _ (al_s (by decide))⟩
  · rw [hl.1]
    exact List.map_congr_left (fun k hk => (xA _ (al_l (List.mem_range.mp hk))).symm)
  · rw [hl.2.1]
    refine List.map_congr_left (fun k hk => (xA _ (al_l ?_)).symm)
    obtain ⟨j, hj⟩ := List.mem_iff_getElem?.mp hk
    exact (hl.2.2.2.2.2.2 j k hj).1
  · rw [hl.2.2.1]
    exact List.map_congr_left (fun c hc => (xA _ (Or.inr (Or.inr (Or.inl (by have := List.mem_range.mp hc; omega))))).symm)
  · rw [hl.2.2.2.1]
    exact List.map_congr_left (fun c hc => (xA _ (Or.inr (Or.inr (Or.inr (by have := List.mem_range.mp hc; omega))))).symm)
  · obtain ⟨a, b, c, d, e, f⟩ := hc
    exact ⟨jcA a (s1.1 _ _ (by omega)) (fun i r h1 h2 h3 h4 => s1.1 i r (by omega)) (s1.2.1 _ (by omega)), jcB b (fun i r h1 h2 h3 h4 => s1.1 i r (by omega)), jcC c (s1.2.1 _ (by omega)) (fun r hr => s1.2.2 r (by omega)), jcD d n3 (fun i r h1 h2 h3 => s1.1 i r (by omega)) (fun r h1 h2 => s1.2.1 r (by omega)), jcE e (fun r hr => s1.1 _ r (by omega)) (fun r hr => s1.2.1 r (by omega)), jcF f (fun i hi => s1.1 i 0 (by omega)) (s1.2.1 _ (by omega)) (fun r hr => s1.2.2 r (by omega))⟩
theorem mno_ja {S1 : Hp} {D1 : Dt} (ja : JA i A E ls ns nl nc nd G P W mk eng brk aact life sl K pn ds V n ol S D) (x : MNo A E ls nl nl nc nd ns G D S1 D1) : JA i A E ls ns nl nc nd G P W mk eng brk aact life sl K pn ds V n ol S1 D1 ∧ D1.FI 549 70 = 3 := by
  obtain ⟨h, hl, hp, hc, hm⟩ := id ja
  obtain ⟨n1, n2, n3, n4⟩ := ja.nl14
  obtain ⟨r1, s1, t3, x1, x2, x3⟩ := x
  obtain ⟨a, b, c, d, e, f⟩ := hm
  exact ⟨⟨r1, hl, hp, jc_cg hc n1 n3 n4 (fun i r hr => s1.1 i r (by omega)) (fun r hr => s1.2.1 r (by omega)) (fun r hr => s1.2.2 r (fun q => q)), ⟨⟨(s1.1 _ _ (by omega)).trans a.1, x1, (s1.1 _ _ (by omega)).trans a.2.2.1, (s1.1 _ _ (by omega)).trans a.2.2.2⟩, ⟨x2, x3⟩, jmC c (fun r h1 h2 => s1.2.1 r (by omega)) (s1.2.2 _ (fun q => q)), jmD d (fun r hr => s1.2.2 r (fun q => q)), jmE e n3 (fun r hr => s1.2.1 r (by omega)), jmF f (fun r hr => s1.2.1 r (by omega))⟩⟩, t3⟩
theorem lnk_new {S1 : Hp} {A' E' : Nat → Nat} {ls' : Nat → List Nat} {D1 : Dt} {g : Nat → Nat} (ja : JA i A E ls ns nl nc nd G P W mk eng brk aact life sl K pn ds V n ol S D) (hi : i < 512) (hk : kOK (gx G nl g) nl) (x : LnkNew A ls nl nc nd ns G g P D S1 A' E' ls' D1) : (∃ ol', JL A' ls' (nl + 1) nc nd (gx G nl g) ol') ∧ JP (i + 1) ns (nl + 1) nc nd (gx G nl g) P W (fun k => if k = nl then fl (g 4 : Nat) (P (g 1)) else mk k) (fun k => if k = nl then true else eng k) (fun k => if k = nl then false else brk k) aact (fun k => if k = nl then 0 else life k) (fun k => if k = nl then 0 else sl k) K pn ds V n ∧ JC ns (nl + 1) nc nd (gx G nl g) P W (fun k => if k = nl then fl (g 4 : Nat) (P (g 1)) else mk k) (fun k => if k = nl then true else eng k) (fun k => if k = nl then false else brk k) aact (fun k => if k = nl then 0 else life k) (fun k => if k = nl then 0 else sl k) K pn ds V D1 ∧ JM ns nl nc nd G P W mk eng brk life sl K pn ds V D1 ∧ A' 0 = A 0 ∧ A' 70 = A 70 ∧ A' 110 = A 110 ∧ A' 111 = A 111 := by
  obtain ⟨h, hl, hp, hc, hm⟩ := id ja
  obtain ⟨n1, n2, n3, n4⟩ := ja.nl14
  have hn := (jp_n hp hi).2.1
  obtain ⟨xA, r1, ⟨hd, hfit⟩, ⟨hG', hL'⟩, s1, xC, ⟨v327, v328, v329, v330⟩, xdr, v63, v60, l0, ⟨ol', l1, lo⟩, l2⟩ := x
  have hG := hp.1.1
  have n5 := hG'.2.1
  refine ⟨⟨ol', l0, l1, ?_, ?_, lo⟩, ?_, ?_, jm_cg hm n3 n4 (fun i _ => s1.1 i 70 (by omega)) (fun r h1 h2 => s1.2.1 r (by omega)) (fun r h1 h2 => s1.2.2 r (by omega)), xA _ (al_s (by decide)), xA _ (al_s (by decide)), xA _ (al_s (by decide)), xA _ (al_s (by decide))⟩
  · rw [l2 2 (by decide) (by decide), hl.2.2.1]
    exact List.map_congr_left (fun c hc => (xA _ (Or.inr (Or.inr (Or.inl (by have := List.mem_range.mp hc; omega))))).symm)
  · rw [l2 3 (by decide) (by decide), hl.2.2.2.1]
    exact List.map_congr_left (fun c hc => (xA _ (Or.inr (Or.inr (Or.inr (by have := List.mem_range.mp hc; omega))))).symm)
  · obtain ⟨a, ⟨b1, b2, b3, b4⟩, ⟨c1, c2⟩, ⟨d1, d2, d3⟩, e, f⟩ := jp_next hp hi
    refine ⟨⟨hG', hL'⟩, ⟨fun k hk2 ha hr => ?_, bdP_ext hG hG' hd b2, bdW_ext hG hG' hd b3 (d1 nl (Nat.le_refl _)).2.1, fun k hk2 => ?_⟩, ⟨fun k hk2 => ?_, c2⟩, ⟨fun k hk2 => ?_, d2, d3⟩, e, f⟩
    · dsimp only
      by_cases c0 : k = nl
      · rw [if_pos c0, c0, gx_s]
        exact Int.le_refl _
      · have hk3 : k < nl := by omega
        rw [if_neg c0]
        rw [gx_n hk3] at hr ⊢
        refine b1 k hk3 ?_ hr
        unfold actE at ha ⊢
        dsimp only at ha
        rw [if_neg c0, if_neg c0] at ha
        exact ha
    · dsimp only
      by_cases c0 : k = nl
      · rw [if_pos c0]
        obtain ⟨M1, M2, M3⟩ := pm_lt hG (g 1)
        have hq := qn_le M3 hn
        have h4 := (kOK_lt hk).2.1
        rw [gx_s] at h4
        exact fl_lim2 (bd_bq M1 (b2 (g 1))) (by omega) M1 h4
      · rw [if_neg c0]
        exact b4 k (by omega)
    · dsimp only
      by_cases c0 : k = nl
      · rw [if_pos c0, if_pos c0]
        exact ⟨Nat.zero_le _, Nat.zero_le _⟩
      · rw [if_neg c0, if_neg c0]
        exact c1 k (by omega)
    · dsimp only
      rw [if_neg (by omega)]
      exact d1 k (by omega)
  · obtain ⟨a, b, ⟨c1, c2, c3, c4⟩, d, e, f⟩ := hc
    have f' := jcF (D' := D1) f (fun i hi => s1.1 i 0 (by omega)) (s1.2.1 _ (by omega)) (fun r hr => s1.2.2 r (by omega))
    refine ⟨⟨(s1.1 _ _ (by omega)).trans a.1, xC, xdr⟩, fun k hk2 => ?_, ⟨rowV_other c1 (s1.2.2 _ (by omega)) (s1.2.2 _ (by omega)), rowV_other c2 (s1.2.2 _ (by omega)) (s1.2.2 _ (by omega)), fun k hk2 => ?_, fun k hk2 => ?_⟩, jcD d n3 (fun i r h1 h2 h3 => s1.1 i r (by omega)) (fun r h1 h2 => s1.2.1 r (by omega)), jcE e (fun r hr => s1.1 _ r (by omega)) (fun r hr => s1.2.1 r (by omega)), f'.1, last_ext hG hG' hd (hp.2.2.2.1.1 nl (Nat.le_refl _)).2.2 f'.2⟩
    · dsimp only
      by_cases c0 : k = nl
      · rw [if_pos c0, if_pos c0, if_pos c0, if_pos c0, c0]
        exact ⟨v327, v328, v329, v330⟩
      · rw [if_neg c0, if_neg c0, if_neg c0, if_neg c0]
        obtain ⟨b1, b2, b3, b4⟩ := b k (by omega)
        exact ⟨(s1.1 _ _ (by omega)).trans b1, (s1.1 _ _ (by omega)).trans b2, (s1.1 _ _ (by omega)).trans b3, (s1.1 _ _ (by omega)).trans b4⟩
    · rw [v60]
      dsimp only
      by_cases c0 : k = nl
      · rw [if_pos c0, if_pos c0]
      · rw [if_neg c0, if_neg c0]
        exact c3 k (by omega)
    · rw [v63]
      unfold actE
      dsimp only
      by_cases c0 : k = nl
      · rw [if_pos c0, if_pos c0, if_pos c0]
        rfl
      · rw [if_neg c0, if_neg c0, if_neg c0]
        exact c4 k hk2
theorem mnew_jm {S1 : Hp} {nlr : Nat} {D1 : Dt} {g : Nat → Nat} (h8 : nc ≤ 8) (hm : JM ns nl nc nd G P W mk eng brk life sl K pn ds V D) (hW : W nl = 0) (x : MNew A E ls nlr nl nc nd ns G g P D S1 D1) : JM ns (nl + 1) nc nd (gx G nl g) P W (fun k => if k = nl then fl (g 4 : Nat) (P (g 1)) else mk k) (fun k => if k = nl then true else eng k) (fun k => if k = nl then false else brk k) (fun k => if k = nl then 0 else life k) (fun k => if k = nl then 0 else sl k) K pn ds V D1 := by
  obtain ⟨r1, s1, t0, x1, x2, x3, v87, v88, v89, v90, v91, v92, v93⟩ := x
  obtain ⟨a, b, c, d, e, f⟩ := hm
  refine ⟨⟨(s1.1 _ _ (by omega)).trans a.1, x1, (s1.1 _ _ (by omega)).trans a.2.2.1, (s1.1 _ _ (by omega)).trans a.2.2.2⟩, ⟨x2, x3⟩, fun k hk => ?_, ⟨mr_other d.1 (s1.2.2 _ (by omega)) (s1.2.2 _ (by omega)), fun k hk => ?_⟩, jmE e h8 (fun r hr => s1.2.1 r (by omega)), jmF f (fun r hr => s1.2.1 r (by omega))⟩
  · rw [v87, v88, v89, v90, v93]
    dsimp only
    by_cases c0 : k = nl
    · rw [if_pos c0, if_pos c0, if_pos c0, if_pos c0, if_pos c0, if_pos c0, if_pos c0, if_pos c0, if_pos c0, if_pos c0]
      exact ⟨rfl, rfl, rfl, rfl, rfl⟩
    · rw [if_neg c0, if_neg c0, if_neg c0, if_neg c0, if_neg c0, if_neg c0, if_neg c0, if_neg c0, if_neg c0, if_neg c0]
      exact c k (by omega)
  · show Fq (D1.AJ 91 k) (D1.AJ 92 k) (W k)
    rw [v91, v92]
    by_cases c0 : k = nl
    · rw [if_pos c0, if_pos c0, c0, hW]
      exact ⟨rfl, rfl⟩
    · rw [if_neg c0, if_neg c0]
      exact d.2 k (by omega)
theorem o_link {x1 x2 x3 x4 x5 : Int32} {Z : Hp → Int32 → Prop} (ja : JA i A E ls ns nl nc nd G P W mk eng brk aact life sl K pn ds V n ol S D) (hi : i < 512) (hN : ∀ S', JS (i + 1) S' (A 0) (A 70) (A 110) (A 111) → N S') (hZ : ∀ S2 k, (isA S2 (A 70) 8 ∧ wX8_link S2 (A 70) x1 x2 x3 x4 x5 (fun S5 b => finP A N k b.toInt64 S5)) → Z S2 k) : wL_link S (A 0) x1 x2 x3 x4 x5 (A 110) Z := by
  obtain ⟨h, hl, hp, hc, hm⟩ := id ja
  have hG := hp.1.1
  have hL := hp.1.2
  obtain ⟨n1, n2, n3, n4⟩ := ja.nl14
  have hn := (jp_n hp hi).2.1
  have hB := hp.2.1.2.1
  have ref : ∀ {A1 E1 ls1 nlr S1 D1} (Φ : Hp → Int32 → Prop), Rep A1 E1 ls1 nlr nc nd S1 D1 → JM ns nl nc nd G P W mk eng brk life sl K pn ds V D1 → _ → _ → _ → isA S1 (A1 70) 8 ∧ wX8_link S1 (A1 70) x1 x2 x3 x4 x5 Φ := fun {A1 E1 ls1 nlr S1 D1} Φ h1 hm1 k1 k2 k3 => by
    exact ⟨m_is h1, p_linkM h1 hG hL hm1.2.1.1 hm1.1.2.1 hm1.1.1 hm1.2.1.2 hm1.2.2.2.1.1 hB hn k1 k2 k3⟩
  unfold wL_link wL_link_b0
  refine ⟨c_is h, p_linkC h hc.1.2.1 hG hL hc.1.1 hl.1 hc.1.2.2 hc.2.2.1.1 hB hn (fun q => Or.inl ⟨rfl, hZ _ _ (ref _ h hm (fun _ S' D' r' t' => ja.bad hi hN (by decide) r' t') (fun q1 q2 => absurd ⟨q1, q2⟩ q) (fun q1 q2 => absurd ⟨q1, q2⟩ q))⟩) (fun q1 q2 q3 => Or.inr (Or.inl ⟨rfl, hZ _ _ (ref _ h hm (fun q4 => absurd ⟨q1, q2⟩ q4) (fun _ _ _ S' D' r' t' => ja.bad hi hN (by decide) r' t') (fun _ _ q5 => absurd q5 q3))⟩)) (fun κ f t a b ne hf ht e1 e2 e3 e4 e5 hmn hk S1 A' D1 x why => Or.inr (Or.inr (Or.inl ⟨rfl, hZ _ _ ?_⟩))) (fun κ f t a b ne hf ht e1 e2 e3 e4 e5 hmn hk hne S1 A' E' ls' D1 x => ?_)⟩
  · obtain ⟨j1, e0', e70, e110, e111⟩ := lnk_no ja x
    rw [← e70]
    refine ref _ j1.1 j1.2.2.2.2 (fun q2 => absurd ⟨inX e2 hf (by omega), inX e3 ht (by omega)⟩ q2) (fun _ _ q2 => absurd hmn q2) (fun _ _ _ => ⟨κ, f, t, a, b, ne, hf, ht, e1, e2, e3, e4, e5, hk, fun S' D' m _ => ?_, fun S' D' m c1 c2 c3 => ?_⟩)
    · obtain ⟨j2, t3⟩ := mno_ja j1 m
      refine finA e70 e110 (fin_t j2.1 t3 (by decide) (hN _ ?_))
      rw [← e0', ← e70, ← e110, ← e111]
      exact (j2.nx hi).js
    · rcases why with q | q | q
      · exact absurd q c1
      · exact absurd c2 q
      · exact absurd c3 q
  · obtain ⟨⟨ol', jl'⟩, hp', hc1, hm1, e0', e70, e110, e111⟩ := lnk_new ja hi hk x
    have n5 : nl + 1 ≤ 14 := hp'.1.1.2.1
    rw [← e110]
    refine out_w x.2.1 (fun S6 r6 => hZ _ _ ?_)
    rw [← e70]
    have hm6 := jm_out (v := (nI nl).toInt64) (i := 0) (r := 110) hm1 n3 n4 rfl
    have hc6 := jc_out (v := (nI nl).toInt64) (i := 0) (r := 110) hc1 n5 n3 n4 rfl
    refine ref _ r6 hm6 (fun q2 => absurd ⟨inX e2 hf (by omega), inX e3 ht (by omega)⟩ q2) (fun _ _ q2 => absurd hmn q2) (fun _ _ _ => ⟨κ, f, t, a, b, ne, hf, ht, e1, e2, e3, e4, e5, hk, fun S' D' m why => ?_, fun S' D' m _ _ _ => ?_⟩)
    · rcases why with q | q | q
      · exact absurd q hne
      · exact absurd x.2.2.1.1 q
      · exact absurd x.2.2.1.2 q
    · have hm' := mnew_jm n3 hm6 (hp.2.2.2.1.1 nl (Nat.le_refl _)).2.1 m
      obtain ⟨r', s', t0, -⟩ := m
      have hc' := jc_cg (D' := D') hc6 n5 n3 n4 (fun i r hr => s'.1 i r (by omega)) (fun r hr => s'.2.1 r (by omega)) (fun r hr => s'.2.2 r (by omega))
      refine finA e70 e110 (fin_ok r' t0 (s'.2.2 110 (by omega)) rfl (hN _ ?_))
      rw [← e0', ← e70, ← e110, ← e111]
      exact JA.js (i := i + 1) ⟨r', jl', hp', hc', hm'⟩
theorem o_planets {x1 x2 x3 x4 x5 : Int32} {Z : Hp → Int32 → Prop} (ja : JA i A E ls ns nl nc nd G P W mk eng brk aact life sl K pn ds V n ol S D) (hi : i < 512) (hN : ∀ S', JS (i + 1) S' (A 0) (A 70) (A 110) (A 111) → N S') (hZ : ∀ S2 k, (isA S2 (A 70) 8 ∧ wX8_planets S2 (A 70) x1 x2 x3 x4 x5 (fun S5 b => finP A N k b.toInt64 S5)) → Z S2 k) : wL_planets S (A 0) x1 x2 x3 x4 x5 (A 110) Z := by
  obtain ⟨h, hl, hp, hc, hm⟩ := id ja
  have hG := hp.1.1
  have hL := hp.1.2
  obtain ⟨n1, n2, n3, n4⟩ := ja.nl14
  have hn := (jp_n hp hi).2.1
  have hB := hp.2.1.2.1
  have ref : ∀ {A1 E1 ls1 nlr S1 D1} (Φ : Hp → Int32 → Prop), Rep A1 E1 ls1 nlr nc nd S1 D1 → JM ns nl nc nd G P W mk eng brk life sl K pn ds V D1 → _ → _ → _ → isA S1 (A1 70) 8 ∧ wX8_planets S1 (A1 70) x1 x2 x3 x4 x5 Φ := fun {A1 E1 ls1 nlr S1 D1} Φ h1 hm1 k1 k2 k3 => by
    exact ⟨m_is h1, p_planetsM h1 hG hL hm1.2.1.1 hm1.1.2.1 hm1.1.1 hm1.2.1.2 hm1.2.2.2.1.1 hB hn k1 k2 k3⟩
  unfold wL_planets wL_planets_b0
  refine ⟨c_is h, p_planetsC h hc.1.2.1 hG hL hc.1.1 hl.1 hc.1.2.2 hc.2.2.1.1 hB hn (fun q => Or.inl ⟨rfl, hZ _ _ (ref _ h hm (fun _ S' D' r' t' => ja.bad hi hN (by decide) r' t') (fun q1 q2 q3 => absurd ⟨q1, q2, q3⟩ q) (fun q1 q2 q3 => absurd ⟨q1, q2, q3⟩ q))⟩) (fun q1 q2 q6 q3 => Or.inr (Or.inl ⟨rfl, hZ _ _ (ref _ h hm (fun q4 => absurd ⟨q1, q2, q6⟩ q4) (fun _ _ _ _ S' D' r' t' => ja.bad hi hN (by decide) r' t') (fun _ _ _ q5 => absurd q5 q3))⟩)) (fun f s t a b hf hs ht e1 e2 e3 e4 e5 hmn hk S1 A' D1 x why => Or.inr (Or.inr (Or.inl ⟨rfl, hZ _ _ ?_⟩))) (fun f s t a b hf hs ht e1 e2 e3 e4 e5 hmn hk hne S1 A' E' ls' D1 x => ?_)⟩
  · obtain ⟨j1, e0', e70, e110, e111⟩ := lnk_no ja x
    rw [← e70]
    refine ref _ j1.1 j1.2.2.2.2 (fun q2 => absurd ⟨inX e1 hf (by omega), inX e2 hs (by omega), inX e3 ht (by omega)⟩ q2) (fun _ _ _ q2 => absurd hmn q2) (fun _ _ _ _ => ⟨f, s, t, a, b, hf, hs, ht, e1, e2, e3, e4, e5, hk, fun S' D' m _ => ?_, fun S' D' m c1 c2 c3 => ?_⟩)
    · obtain ⟨j2, t3⟩ := mno_ja j1 m
      refine finA e70 e110 (fin_t j2.1 t3 (by decide) (hN _ ?_))
      rw [← e0', ← e70, ← e110, ← e111]
      exact (j2.nx hi).js
    · rcases why with q | q | q
      · exact absurd q c1
      · exact absurd c2 q
      · exact absurd c3 q
  · obtain ⟨⟨ol', jl'⟩, hp', hc1, hm1, e0', e70, e110, e111⟩ := lnk_new ja hi hk x
    have n5 : nl + 1 ≤ 14 := hp'.1.1.2.1
    rw [← e110]
    refine out_w x.2.1 (fun S6 r6 => hZ _ _ ?_)
    rw [← e70]
    have hm6 := jm_out (v := (nI nl).toInt64) (i := 0) (r := 110) hm1 n3 n4 rfl
    have hc6 := jc_out (v := (nI nl).toInt64) (i := 0) (r := 110) hc1 n5 n3 n4 rfl
    refine ref _ r6 hm6 (fun q2 => absurd ⟨inX e1 hf (by omega), inX e2 hs (by omega), inX e3 ht (by omega)⟩ q2) (fun _ _ _ q2 => absurd hmn q2) (fun _ _ _ _ => ⟨f, s, t, a, b, hf, hs, ht, e1, e2, e3, e4, e5, hk, fun S' D' m why => ?_, fun S' D' m _ _ _ => ?_⟩)
    · rcases why with q | q | q
      · exact absurd q hne
      · exact absurd x.2.2.1.1 q
      · exact absurd x.2.2.1.2 q
    · have hm' := mnew_jm n3 hm6 (hp.2.2.2.1.1 nl (Nat.le_refl _)).2.1 m
      obtain ⟨r', s', t0, -⟩ := m
      have hc' := jc_cg (D' := D') hc6 n5 n3 n4 (fun i r hr => s'.1 i r (by omega)) (fun r hr => s'.2.1 r (by omega)) (fun r hr => s'.2.2 r (by omega))
      refine finA e70 e110 (fin_ok r' t0 (s'.2.2 110 (by omega)) rfl (hN _ ?_))
      rw [← e0', ← e70, ← e110, ← e111]
      exact JA.js (i := i + 1) ⟨r', jl', hp', hc', hm'⟩
end LX9
