/-! THE REFERENCE: cams (wish, segment, clear) -/
section KM9
variable {A E : Nat → Nat} {ls : Nat → List Nat} {nl nc nd : Nat} {S : Hp} {D : Dt}
theorem rw_ (h : Rep A E ls nl nc nd S D) {c : Nat} (hc : c < 8) : S.AR (A 96) c = some (A (200 + c)) ∧ S.AR (A 97) c = some (A (210 + c)) ∧ S.AR (A 98) c = some (A (220 + c)) ∧ S.AR (A 99) c = some (A (230 + c)) ∧ isA S (A (200 + c)) 21 ∧ isA S (A (210 + c)) 21 ∧ isA S (A (220 + c)) 20 ∧ isA S (A (230 + c)) 21 ∧ S.N (A (200 + c)) = 24 ∧ S.N (A (210 + c)) = 24 ∧ S.N (A (220 + c)) = 24 ∧ S.N (A (230 + c)) = 24 := by
  have t0 : ∀ c, c < 8 → (sdr (200 + c) = true ∧ sdr (210 + c) = true ∧ sdr (220 + c) = true ∧ sdr (230 + c) = true) := by decide
  have t1 : ∀ c, c < 8 → (kdr (200 + c) = 21 ∧ kdr (210 + c) = 21 ∧ kdr (220 + c) = 20 ∧ kdr (230 + c) = 21) := by decide +kernel
  have t2 : ∀ c, c < 8 → (ndr (200 + c) = 24 ∧ ndr (210 + c) = 24 ∧ ndr (220 + c) = 24 ∧ ndr (230 + c) = 24) := by decide +kernel
  obtain ⟨s1, s2, s3, s4⟩ := t0 c hc
  obtain ⟨k1, k2, k3, k4⟩ := t1 c hc
  obtain ⟨n1, n2, n3, n4⟩ := t2 c hc
  obtain ⟨f1, f2, f3, f4⟩ := h.1.2.2.2.1 c hc
  exact ⟨f1, f2, f3, f4, rep_is h (al_s s1) k1, rep_is h (al_s s2) k2, rep_is h (al_s s3) k3, rep_is h (al_s s4) k4, rep_N h (al_s s1) n1, rep_N h (al_s s2) n2, rep_N h (al_s s3) n3, rep_N h (al_s s4) n4⟩
theorem rw_al {c : Nat} (hc : c < 8) : al nl nc nd (200 + c) ∧ al nl nc nd (210 + c) ∧ al nl nc nd (220 + c) ∧ al nl nc nd (230 + c) := by
  have t0 : ∀ c, c < 8 → (sdr (200 + c) = true ∧ sdr (210 + c) = true ∧ sdr (220 + c) = true ∧ sdr (230 + c) = true) := by decide
  obtain ⟨s1, s2, s3, s4⟩ := t0 c hc
  exact ⟨al_s s1, al_s s2, al_s s3, al_s s4⟩
theorem p_partsOf {Φ : Hp → Int32 → Prop} {ns c : Nat} {x : Cm} (h : Rep A E ls nl nc nd S D) (hc : c < 8) (hx : CmM x c D) (hK : CmK ns x) (kk : Φ S (nI (sumN (cmL x) (cmN x)))) : wX8_partsOf S (A 70) (nI c) Φ := by
  have n24 := cmK_n hK
  have a95 := m_arr h 535 95 21 8
  have a96 := m_arr h 536 96 26 8
  obtain ⟨f1, f2, f3, f4, g1, g2, g3, g4, n1, n2, n3, n4⟩ := rw_ h hc
  obtain ⟨l1, l2, l3, l4⟩ := rw_al (nl := nl) (nc := nc) (nd := nd) hc
  have c8 : ∀ n, n = 8 → vp_in (nI c) n := fun n e => by
    rw [e]
    exact in_nI hc (by decide)
  have cc : (nI c).toNatClampNeg = c := cl_nI (by omega)
  have v95 : S.AI (A 95) c = nI (cmN x) := (rep_AI h c (al_s (by decide))).trans hx.2.1
  unfold wX8_partsOf wX8_partsOf_b0
  refine it3_ex (fun j S1 a v => S1 = S ∧ v = nI j ∧ a = nI (sumN (cmL x) j)) (cmN x) ?_ ?_ ⟨rfl, rfl, rfl⟩
  · rintro j hj S1 _ _ k9 ⟨rfl, rfl, rfl⟩ hk9
    unfold wX8_partsOf_b4
    rw [cc]
    refine ⟨m_is h, A 95, a95.1, a95.2.1, c8 _ a95.2.2, ?_⟩
    rw [v95]
    refine if_n (nI_ge hj (by omega)) ⟨A 96, a96.1, a96.2.1, c8 _ a96.2.2, _, f1, g1, by rw [n1]; exact in_nI (by omega) (by decide), ?_⟩
    have v : S1.AI (A (200 + c)) (nI j).toNatClampNeg = nI (cmL x j) := rd_I h l1 (by omega) (hx.2.2.1 j hj).1
    rw [v, nI_add, ← nI_succ]
    exact hk9 _ _ _ ⟨rfl, rfl, rfl⟩
  · rintro S1 _ _ k9 ⟨rfl, rfl, rfl⟩
    unfold wX8_partsOf_b4
    rw [cc]
    refine ⟨m_is h, A 95, a95.1, a95.2.1, c8 _ a95.2.2, ?_⟩
    rw [v95]
    exact if_p (nI_le (Nat.le_refl _) (by omega)) kk
theorem p_adds {Φ : Hp → Prop} {c p hh w : Nat} {x : Cm} (h : Rep A E ls nl nc nd S D) (hc : c < 8) (hx : CmM x c D) (hn : cmN x < 24) (hw : w = 117 ∨ w = 112)
    (kk : ∀ S' D', Rep A E ls nl nc nd S' D' → SamG (fun _ _ => False) (fun r => r = 95 ∨ r = 200 + c ∨ r = 210 + c ∨ r = 220 + c) (fun _ => False) D D' → (∀ i, i ≠ c → D'.AI 95 i = D.AI 95 i) → CmM (cmApp x p hh w) c D' → Φ S') : wX8_adds S (A 70) (nI c) (nI p) (nI hh) (nI w) Φ := by
  obtain ⟨x1, x2, x3, x4⟩ := hx
  obtain ⟨l1, l2, l3, l4⟩ := rw_al (nl := nl) (nc := nc) (nd := nd) hc
  have c8 : ∀ n, n = 8 → vp_in (nI c) n := fun n e => by
    rw [e]
    exact in_nI hc (by decide)
  have n24 : ∀ n, n = 24 → vp_in (nI (cmN x)) n := fun n e => by
    rw [e]
    exact in_nI hn (by decide)
  have cc : (nI c).toNatClampNeg = c := cl_nI (by omega)
  have cN : (nI (cmN x)).toNatClampNeg = cmN x := cl_nI (by omega)
  have v95 : S.AI (A 95) c = nI (cmN x) := (rep_AI h c (al_s (by decide))).trans x2
  unfold wX8_adds wX8_adds_b0
  rw [cc]
  have a95 := m_arr h 535 95 21 8
  have a96 := m_arr h 536 96 26 8
  obtain ⟨f1, f2, f3, f4, g1, g2, g3, g4, n1, n2, n3, n4⟩ := rw_ h hc
  refine ⟨m_is h, A 95, a95.1, a95.2.1, c8 _ a95.2.2, A 96, a96.1, a96.2.1, c8 _ a96.2.2, _, f1, g1, ?_⟩
  rw [v95, cN]
  refine ⟨n24 _ n1, fun S11 e11 => ?_⟩
  obtain ⟨D11, r11, u11, j11, o11, i11⟩ := t_setAI (r := 200 + c) h l1 e11
  have b97 := m_arr r11 537 97 26 8
  obtain ⟨-, f2, -, -, -, g2, -, -, -, n2, -, -⟩ := rw_ r11 hc
  refine ⟨A 97, b97.1, b97.2.1, c8 _ b97.2.2, _, f2, g2, n24 _ n2, fun S18 e18 => ?_⟩
  obtain ⟨D18, r18, u18, j18, o18, i18⟩ := t_setAI (r := 210 + c) r11 l2 e18
  have b98 := m_arr r18 538 98 27 8
  obtain ⟨-, -, f3, -, -, -, g3, -, -, -, n3, -⟩ := rw_ r18 hc
  refine ⟨A 98, b98.1, b98.2.1, c8 _ b98.2.2, _, f3, g3, n24 _ n3, nc_law hw, fun S26 e26 => ?_⟩
  obtain ⟨D26, r26, u26, j26, o26, i26⟩ := t_setAI (r := 220 + c) r18 l3 e26
  have b95 := m_arr r26 535 95 21 8
  have w95 : S26.AI (A 95) c = nI (cmN x) := (rep_AI r26 c (al_s (by decide))).trans (by rw [o26 95 (by omega), o18 95 (by omega), o11 95 (by omega)]; exact x2)
  refine ⟨A 95, b95.1, b95.2.1, c8 _ b95.2.2, c8 _ b95.2.2, fun S31 e31 => ?_⟩
  rw [w95, ← nI_succ] at e31
  obtain ⟨D31, r31, u31, j31, o31, i31⟩ := t_setAI (r := 95) r26 (al_s (by decide)) e31
  have w200 : ∀ j, D31.AI (200 + c) j = if j = cmN x then nI p else D.AI (200 + c) j := fun j => by
    rw [o31 _ (by omega), o26 _ (by omega), o18 _ (by omega), i11 j]
  have w210 : ∀ j, D31.AI (210 + c) j = if j = cmN x then nI hh else D.AI (210 + c) j := fun j => by
    rw [o31 _ (by omega), o26 _ (by omega), i18 j, o11 _ (by omega)]
  have w220 : ∀ j, D31.AI (220 + c) j = if j = cmN x then nI w else D.AI (220 + c) j := fun j => by
    rw [o31 _ (by omega), i26 j, o18 _ (by omega), o11 _ (by omega)]
  have wA : ∀ r, r ≠ 95 → r ≠ 200 + c → r ≠ 210 + c → r ≠ 220 + c → D31.AI r = D.AI r := fun r h0 h1 h2 h3 => by
    rw [o31 r h0, o26 r h3, o18 r h2, o11 r h1]
  have v5 : ∀ i, D31.AI 95 i = if i = c then nI (cmN x + 1) else D.AI 95 i := fun i => by
    rw [i31 i, o26 95 (by omega), o18 95 (by omega), o11 95 (by omega)]
  refine kk S31 D31 r31 ⟨fun i r _ => by rw [u31, u26, u18, u11], fun r hr => wA r (fun q => hr (Or.inl q)) (fun q => hr (Or.inr (Or.inl q))) (fun q => hr (Or.inr (Or.inr (Or.inl q)))) (fun q => hr (Or.inr (Or.inr (Or.inr q)))), fun r _ => by rw [j31, j26, j18, j11]⟩ (fun i hi => by rw [v5 i, if_neg hi]) ⟨?_, ?_, fun j hj => ?_, fun j hj => ?_⟩
  · rw [wA 94 (by omega) (by omega) (by omega) (by omega)]
    exact x1
  · rw [v5 c, if_pos rfl]
    rfl
  · have hj' : j < cmN x + 1 := hj
    rw [w200, w210, w220]
    show _ = nI (fup (cmL x) (cmN x) p j) ∧ _ = nI (fup (cmH x) (cmN x) hh j) ∧ _ = nI (fup (cmW x) (cmN x) w j)
    unfold fup
    by_cases cj : j = cmN x
    · repeat rw [if_pos cj]
      exact ⟨rfl, rfl, rfl⟩
    · repeat rw [if_neg cj]
      exact x3 j (by omega)
  · rw [wA _ (by omega) (by omega) (by omega) (by omega)]
    exact x4 j hj
theorem t_isLaw {Φ : Hp → Int32 → Prop} {x : Int32} (k : Φ S (bI (decide (x = 117 ∨ x = 112)))) : wX8_isLaw S x Φ := by
  unfold wX8_isLaw wX8_isLaw_b0 wX8_isLaw_b12
  by_cases c : x = 117
  · rw [decide_eq_true (Or.inl c)] at k
    exact if_p c k
  · by_cases c2 : x = 112
    · rw [decide_eq_true (Or.inr c2)] at k
      exact if_n c (fi_p c2 k)
    · rw [decide_eq_false (fun q => by rcases q with q | q; exact c q; exact c2 q)] at k
      exact if_n c (fi_n c2 k)
theorem cmM_thr {x : Cm} {c : Nat} {D' : Dt} {t : Int32} (h : CmM x c D) (ht : Thr t D D') : CmM x c D' := cmM_cg h (by rw [ht.AI]) (by rw [ht.AI]) (fun r _ => by rw [ht.AI])
theorem p_clearM {Φ : Hp → Int32 → Prop} {n : Nat} {x1 : Int32} {K : Nat → Cm} (h : Rep A E ls nl nc nd S D) (hn : D.FI 545 70 = nI n) (h8 : n ≤ 8) (hx : ∀ c, c < n → CmM (K c) c D)
    (kt1 : ¬ inR x1 n → ∀ S' D', Rep A E ls nl nc nd S' D' → Thr 1 D D' → Φ S' 0)
    (kk : ∀ c, c < n → x1 = nI c → ∀ S' D', Rep A E ls nl nc nd S' D' → SamG (fun i r => i = 549 ∧ r = 70) (fun r => r = 95) (fun _ => False) D D' → D'.FI 549 70 = 0 → (∀ i, i ≠ c → D'.AI 95 i = D.AI 95 i) → CmM (cmClr (K c)) c D' → Φ S' (nI (cmN (K c)))) : wX8_clear S (A 70) x1 Φ := by
  unfold wX8_clear wX8_clear_b0
  refine ⟨m_is h, g_C h hn (by omega) (fun c hc e S1 D1 r1 t1 => if_p rfl ⟨m_is r1, ?_⟩) (fun q S1 D1 r1 t1 => if_n (by decide) (kt1 q S1 D1 r1 t1))⟩
  subst e
  obtain ⟨y1, y2, y3, y4⟩ := hx c hc
  have a95 := m_arr r1 535 95 21 8
  have c8 : ∀ n, n = 8 → vp_in (nI c) n := fun n e => by
    rw [e]
    exact in_nI (by omega) (by decide)
  have v95 : S1.AI (A 95) (nI c).toNatClampNeg = nI (cmN (K c)) := rd_I r1 (al_s (by decide)) (by omega) (by rw [t1.AI]; exact y2)
  refine ⟨A 95, a95.1, a95.2.1, c8 _ a95.2.2, A 95, a95.1, a95.2.1, c8 _ a95.2.2, fun S2 e2 => ?_⟩
  rw [v95]
  rw [cl_nI (by omega)] at e2
  obtain ⟨D2, r2, u2, j2, o2, i2⟩ := t_setAI (r := 95) r1 (al_s (by decide)) e2
  refine kk c hc rfl S2 D2 r2 ⟨fun i r hr => by rw [u2]; exact t1.1.1 i r hr, fun r hr => by rw [o2 r hr, t1.AI], fun r _ => by rw [j2, t1.AJ]⟩ (by rw [u2]; exact t1.2) (fun i hi => by rw [i2 i, if_neg hi, t1.AI]) ⟨?_, ?_, fun j hj => absurd hj (Nat.not_lt_zero j), fun j hj => ?_⟩
  · rw [o2 94 (by decide), t1.AI]
    exact y1
  · rw [i2 c, if_pos rfl]
    rfl
  · rw [o2 _ (by omega), t1.AI]
    exact y4 j hj
theorem p_segmentM {Φ : Hp → Int32 → Prop} {ns n : Nat} {x1 x2 x3 x4 : Int32} {K : Nat → Cm} (h : Rep A E ls nl nc nd S D) (hn : D.FI 545 70 = nI n) (h8 : n ≤ 8) (hx : ∀ c, c < n → CmM (K c) c D ∧ CmK ns (K c))
    (kt1 : ¬ inR x1 n → ∀ S' D', Rep A E ls nl nc nd S' D' → Thr 1 D D' → Φ S' 0) (kt2 : inR x1 n → ¬ ((1 ≤ x2.toInt ∧ x2.toInt ≤ 24) ∧ (0 ≤ x3.toInt ∧ x3.toInt ≤ 99) ∧ (x4 = 117 ∨ x4 = 112)) → ∀ S' D', Rep A E ls nl nc nd S' D' → Thr 2 D D' → Φ S' 0)
    (kt3 : ∀ c p, c < n → p ≤ 24 → x1 = nI c → x2 = nI p → ((1 ≤ x2.toInt ∧ x2.toInt ≤ 24) ∧ (0 ≤ x3.toInt ∧ x3.toInt ≤ 99) ∧ (x4 = 117 ∨ x4 = 112)) → ¬ sumN (cmL (K c)) (cmN (K c)) + p ≤ 24 → ∀ S' D', Rep A E ls nl nc nd S' D' → Thr 3 D D' → Φ S' 0)
    (kk : ∀ c p hh w, c < n → 1 ≤ p → p ≤ 24 → hh ≤ 99 → (w = 117 ∨ w = 112) → x1 = nI c → x2 = nI p → x3 = nI hh → x4 = nI w → sumN (cmL (K c)) (cmN (K c)) + p ≤ 24 → ∀ S' D', Rep A E ls nl nc nd S' D' → SamG (fun i r => i = 549 ∧ r = 70) (fun r => r = 95 ∨ r = 200 + c ∨ r = 210 + c ∨ r = 220 + c) (fun _ => False) D D' → D'.FI 549 70 = 0 → (∀ i, i ≠ c → D'.AI 95 i = D.AI 95 i) → CmM (cmApp (K c) p hh w) c D' → Φ S' (nI (sumN (cmL (K c)) (cmN (K c)) + p))) : wX8_segment S (A 70) x1 x2 x3 x4 Φ := by
  have main : ∀ z : Bool, z = decide ((1 ≤ x2.toInt ∧ x2.toInt ≤ 24) ∧ (0 ≤ x3.toInt ∧ x3.toInt ≤ 99) ∧ (x4 = 117 ∨ x4 = 112)) → wX8_segment_b33 (A 70) x1 x2 x3 x4 Φ S (bI z) := fun z hz => by
    unfold wX8_segment_b33
    refine ⟨m_is h, g_C h hn (by omega) (fun c hc e S1 D1 r1 t1 => fi_p rfl ?_) (fun q S1 D1 r1 t1 => fi_n (by decide) (kt1 q S1 D1 r1 t1))⟩
    unfold wX8_segment_b59
    cases ez : z with
    | false =>
      rw [ez] at hz
      exact fi_p rfl (g_1 r1 t1 (fun S2 D2 r2 t2 => fi_n (by decide) (kt2 (by rw [e]; exact inR_nI hc (by omega)) (of_decide_eq_false hz.symm) S2 D2 r2 t2)))
    | true =>
      rw [ez] at hz
      have ok := of_decide_eq_true hz.symm
      obtain ⟨⟨a1, a2⟩, ⟨b1, b2⟩, cw⟩ := ok
      obtain ⟨hC, hK⟩ := hx c hc
      obtain ⟨p, hp, ep⟩ := inR_ex (x := x2) (n := 25) ⟨by omega, by omega⟩ (by decide)
      obtain ⟨hh, hhh, eh⟩ := inR_ex (x := x3) (n := 100) ⟨b1, by omega⟩ (by decide)
      have p1 : 1 ≤ p := by
        rw [ep, nI_toInt (by omega)] at a1
        omega
      have sm := hK.2.1
      refine fi_n (by decide) (g_0 r1 t1 (fun S2 D2 r2 t2 => fi_p rfl ⟨m_is r2, ?_⟩))
      have hC2 := cmM_thr hC t2
      rw [e]
      refine p_partsOf r2 (by omega) hC2 hK ?_
      unfold wX8_segment_b84
      by_cases ct : sumN (cmL (K c)) (cmN (K c)) + p ≤ 24
      · have hn' : cmN (K c) < 24 := by
          have := sumN_ge (f := cmL (K c)) (cmN (K c)) (fun j hj => (hK.2.2.1 j hj).1)
          omega
        obtain ⟨w, hw, ew⟩ : ∃ w : Nat, (w = 117 ∨ w = 112) ∧ x4 = nI w := by
          rcases cw with cw | cw
          · exact ⟨117, Or.inl rfl, cw⟩
          · exact ⟨112, Or.inr rfl, cw⟩
        rw [ep, nI_add]
        refine if_p (nI_le (b := 24) ct (by decide)) (g_0 r2 t2 (fun S3 D3 r3 t3 => if_p rfl ⟨m_is r3, ?_⟩))
        rw [eh, ew]
        refine p_adds r3 (by omega) (cmM_thr hC t3) hn' hw (fun S4 D4 r4 s4 o4 m4 => ⟨m_is r4, ?_⟩)
        refine p_partsOf r4 (by omega) m4 (cmK_app hK p1 (by omega) hw ct) ?_
        rw [sum_app]
        refine kk c p hh w hc p1 (by omega) (by omega) hw e ep eh ew ct S4 D4 r4 ⟨fun i r hr => ?_, fun r hr => ?_, fun r _ => ?_⟩ ?_ (fun i hi => ?_) m4
        · rw [s4.1 i r (fun q => q)]
          exact t3.1.1 i r hr
        · rw [s4.2.1 r hr, t3.AI]
        · rw [s4.2.2 r (fun q => q), t3.AJ]
        · rw [s4.1 _ _ (fun q => q)]
          exact t3.2
        · rw [o4 i hi, t3.AI]
      · refine if_n (fun q => ct ?_) (g_1 r2 t2 (fun S3 D3 r3 t3 => if_n (by decide) (kt3 c p hc (by omega) e ep ⟨⟨a1, a2⟩, ⟨b1, b2⟩, cw⟩ ct S3 D3 r3 t3)))
        rw [ep, nI_add] at q
        exact (nI_leI (b := 24) (by omega) (by decide)).mp q
  unfold wX8_segment wX8_segment_b0 wX8_segment_b32
  refine t_isIn ?_
  by_cases c1 : (1 : Int32).toInt ≤ x2.toInt ∧ x2.toInt ≤ (24 : Int32).toInt
  · rw [decide_eq_true c1]
    refine if_n (by decide) (t_isIn ?_)
    by_cases c2 : (0 : Int32).toInt ≤ x3.toInt ∧ x3.toInt ≤ (99 : Int32).toInt
    · rw [decide_eq_true c2]
      refine if_n (by decide) (t_isLaw ?_)
      by_cases c3 : x4 = 117 ∨ x4 = 112
      · rw [decide_eq_true c3]
        exact if_n (by decide) (main true (decide_eq_true ⟨c1, c2, c3⟩).symm)
      · rw [decide_eq_false c3]
        exact if_p rfl (main false (decide_eq_false (fun q => c3 q.2.2)).symm)
    · rw [decide_eq_false c2]
      exact if_p rfl (main false (decide_eq_false (fun q => c2 q.2.1)).symm)
  · rw [decide_eq_false c1]
    exact if_p rfl (main false (decide_eq_false (fun q => c1 q.1)).symm)
theorem p_wishM {Φ : Hp → Int32 → Prop} {ns n : Nat} {x1 x2 x3 : Int32} {K : Nat → Cm} (h : Rep A E ls nl nc nd S D) (hn : D.FI 545 70 = nI n) (h8 : n ≤ 8) (hx : ∀ c, c < n → CmM (K c) c D ∧ CmK ns (K c))
    (kt1 : ¬ inR x1 n → ∀ S' D', Rep A E ls nl nc nd S' D' → Thr 1 D D' → Φ S' 0) (kt2 : inR x1 n → ¬ ((0 ≤ x2.toInt ∧ x2.toInt ≤ 23) ∧ (-1 ≤ x3.toInt ∧ x3.toInt ≤ 99)) → ∀ S' D', Rep A E ls nl nc nd S' D' → Thr 2 D D' → Φ S' 0)
    (kk : ∀ c j v, c < n → j < 24 → v ≤ 100 → x1 = nI c → x2 = nI j → x3 = nI v - 1 → ∀ S' D', Rep A E ls nl nc nd S' D' → SamG (fun i r => i = 549 ∧ r = 70) (fun r => r = 230 + c) (fun _ => False) D D' → D'.FI 549 70 = 0 → CmM (cmWsh (K c) j v) c D' → Φ S' (nI (cnt 24 (fun i => decide (cmV (cmWsh (K c) j v) i ≠ 0))))) : wX8_wish S (A 70) x1 x2 x3 Φ := by
  unfold wX8_wish wX8_wish_b0 wX8_wish_b34 wX8_wish_b39
  refine ⟨m_is h, g_C h hn (by omega) (fun c hc e S1 D1 r1 t1 => fi_p rfl ?_) (fun q S1 D1 r1 t1 => fi_n (by decide) (kt1 q S1 D1 r1 t1))⟩
  have hin : inR x1 n := by
    rw [e]
    exact inR_nI hc (by omega)
  have bad : ¬ ((0 ≤ x2.toInt ∧ x2.toInt ≤ 23) ∧ (-1 ≤ x3.toInt ∧ x3.toInt ≤ 99)) → ∀ K9 : Hp → Prop, isA S1 (A 70) 8 ∧ wX8_isThrown S1 (A 70) 1 2 (fun S1 r2 => (r2 = 0 → K9 S1) ∧ (¬ (r2 = 0) → Φ S1 0)) := fun q K9 => g_1 r1 t1 (fun S2 D2 r2 t2 => if_n (by decide) (kt2 hin q S2 D2 r2 t2))
  refine t_isIn ?_
  by_cases c1 : (0 : Int32).toInt ≤ x2.toInt ∧ x2.toInt ≤ (23 : Int32).toInt
  · rw [decide_eq_true c1]
    refine if_n (by decide) (t_isIn ?_)
    by_cases c2 : (-1 : Int32).toInt ≤ x3.toInt ∧ x3.toInt ≤ (99 : Int32).toInt
    · rw [decide_eq_true c2]
      refine fi_n (by decide) (g_0 r1 t1 (fun S2 D2 r2 t2 => if_p rfl ⟨m_is r2, ?_⟩))
      have a1' : (0 : Int) ≤ x2.toInt := c1.1
      have a2' : x2.toInt ≤ 23 := c1.2
      obtain ⟨hC, hK⟩ := hx c hc
      obtain ⟨j, hj, rfl⟩ := inR_ex (x := x2) (n := 24) ⟨a1', by omega⟩ (by decide)
      obtain ⟨v, hv, rfl⟩ := wI_rng c2
      subst e
      have c8 : ∀ n, n = 8 → vp_in (nI c) n := fun n e => by
        rw [e]
        exact in_nI (by omega) (by decide)
      have cc : (nI c).toNatClampNeg = c := cl_nI (by omega)
      obtain ⟨l1, l2, l3, l4⟩ := rw_al (nl := nl) (nc := nc) (nd := nd) (show c < 8 by omega)
      have a99 := m_arr r2 539 99 26 8
      obtain ⟨-, -, -, f4, -, -, -, g4, -, -, -, n4⟩ := rw_ r2 (show c < 8 by omega)
      rw [cc]
      refine ⟨A 99, a99.1, a99.2.1, c8 _ a99.2.2, _, f4, g4, by rw [n4]; exact in_nI hj (by decide), fun S12 e12 => ?_⟩
      rw [cl_nI (by omega)] at e12
      obtain ⟨D12, r12, u12, j12, o12, i12⟩ := t_setAI (r := 230 + c) r2 l4 e12
      have b99 := m_arr r12 539 99 26 8
      obtain ⟨-, -, -, f4, -, -, -, g4, -, -, -, n4⟩ := rw_ r12 (show c < 8 by omega)
      have hC' : CmM (cmWsh (K c) j v) c D12 := by
        obtain ⟨x1, x2, x3, x4⟩ := hC
        refine ⟨by rw [o12 _ (by omega), t2.AI]; exact x1, by rw [o12 _ (by omega), t2.AI]; exact x2, fun i hi => ?_, fun i hi => ?_⟩
        · rw [o12 _ (by omega), o12 _ (by omega), o12 _ (by omega), t2.AI]
          exact x3 i hi
        · rw [i12 i, t2.AI]
          show _ = nI (fup (cmV (K c)) j v i) - 1
          unfold fup
          by_cases ci : i = j
          · rw [if_pos ci, if_pos ci]
          · rw [if_neg ci, if_neg ci]
            exact x4 i hi
      have hv' := (cmK_wsh (j := j) hK hv).2.2.2
      refine ⟨A 99, b99.1, b99.2.1, c8 _ b99.2.2, _, f4, g4, ?_⟩
      rw [n4]
      refine it5_ex (fun i T b a w z => T = S12 ∧ z = nI i ∧ a = A (230 + c) ∧ w = nI 24 ∧ b = nI (cnt i (fun i => decide (cmV (cmWsh (K c) j v) i ≠ 0)))) 24 ?_ ?_ ⟨rfl, rfl, rfl, rfl, rfl⟩
      · rintro i hi T _ _ _ _ k9 ⟨rfl, rfl, rfl, rfl, rfl⟩ hk9
        unfold wX8_wish_b76 wX8_wish_b103
        refine if_n (nI_ge (b := 24) hi (by decide)) ⟨g4, by rw [n4]; exact in_nI hi (by decide), ?_⟩
        have v9 : T.AI (A (230 + c)) (nI i).toNatClampNeg = nI (cmV (cmWsh (K c) j v) i) - 1 := rd_I r12 l4 (by omega) (hC'.2.2.2 i hi)
        have w9 := wI_m1 (n := cmV (cmWsh (K c) j v) i) (by have := hv' i hi; omega)
        rw [v9]
        by_cases cz : cmV (cmWsh (K c) j v) i = 0
        · refine fi_p (w9.mpr cz) ?_
          rw [← nI_succ, Int32.add_zero]
          refine hk9 _ _ _ _ _ ⟨rfl, rfl, rfl, rfl, ?_⟩
          rw [cnt_s, if_neg (by rw [cz]; decide), Nat.add_zero]
        · refine fi_n (fun q => cz (w9.mp q)) ?_
          rw [← nI_succ, ← nI_succ]
          refine hk9 _ _ _ _ _ ⟨rfl, rfl, rfl, rfl, ?_⟩
          rw [cnt_s, if_pos (decide_eq_true cz)]
      · rintro T _ _ _ _ k9 ⟨rfl, rfl, rfl, rfl, rfl⟩
        unfold wX8_wish_b76
        refine if_p (nI_le (Nat.le_refl 24) (by decide)) (kk c j v hc hj hv rfl rfl rfl T D12 r12 ⟨fun i r hr => by rw [u12]; exact t2.1.1 i r hr, fun r hr => by rw [o12 r hr, t2.AI], fun r _ => by rw [j12, t2.AJ]⟩ (by rw [u12]; exact t2.2) hC')
    · rw [decide_eq_false c2]
      exact fi_p rfl (bad (fun q => c2 q.2) _)
  · rw [decide_eq_false c1]
    exact if_p rfl (bad (fun q => c1 q.1) _)
end KM9
