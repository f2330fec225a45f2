/-! MAKE, on both sides -/
section MB9
variable {A E : Nat → Nat} {ls : Nat → List Nat} {nl nc nd : Nat} {S : Hp} {D : Dt}
theorem p_followWishes {Φ : Hp → Prop} {ns c w : Nat} {x : Cm} (h : Rep A E ls nl nc nd S D) (hc : c < nc) (hc8 : c < 8) (hx : CmC x c D) (hK : CmK ns x) (h0 : cmV x 0 ≠ 0) (hw : w = 117 ∨ w = 112)
    (kk : ∀ S' D', Rep A E ls nl nc nd S' D' → SamG (fun i r => (i = 69 ∨ i = 70) ∧ r = 500 + 5 * c) (fun r => r = 501 + 5 * c ∨ r = 502 + 5 * c ∨ r = 503 + 5 * c) (fun _ => False) D D' → CmC (mkCm (cmV x) w x 24) c D' → Φ S') : wX1_followWishes S (A (500 + 5 * c)) (nI w) Φ := by
  obtain ⟨l0, l1, l2, l3, l4⟩ := cam_al (nl := nl) (nd := nd) hc
  have hv := hK.2.2.2
  unfold wX1_followWishes wX1_followWishes_b0
  refine ⟨(cam_ h hc hc8).1, p_empty h hc hc8 hx (fun S0 D0 r0 s0 x0 => ?_)⟩
  refine it2_ex (fun j S1 v => v = nI j ∧ ∃ D1, Rep A E ls nl nc nd S1 D1 ∧ SamG (fun i r => (i = 69 ∨ i = 70) ∧ r = 500 + 5 * c) (fun r => r = 501 + 5 * c ∨ r = 502 + 5 * c ∨ r = 503 + 5 * c) (fun _ => False) D D1 ∧ CmC (mkCm (cmV x) w x j) c D1) 24 ?_ ?_ ⟨rfl, D0, r0, s0.wk (fun _ _ q => q) (fun _ q => absurd q (fun q => q)) (fun _ q => q), x0⟩
  · rintro j hj S1 _ k9 ⟨rfl, D1, r1, s1, x1⟩ hk9
    obtain ⟨g0, f1, f2, f3, f4, g1, g2, g3, g4, n1, n2, n3, n4⟩ := cam_ r1 hc hc8
    have eV := mkCm_V (V := cmV x) (w := w) (x := x) j
    have hv1 : ∀ i, i < 24 → cmV (mkCm (cmV x) w x j) i ≤ 100 := by rw [eV]; exact hv
    have v : S1.AI (A (504 + 5 * c)) (nI j).toNatClampNeg = nI (cmV x j) - 1 := rd_I r1 l4 (by omega) (by rw [x1.2.2.2.2 _ hj, eV])
    have hvj := hv j hj
    have w9 := wI_m1 (n := cmV x j) (by omega)
    unfold wX1_followWishes_b6 wX1_followWishes_b41
    refine if_n (nI_ge (b := 24) hj (by decide)) ⟨g0, _, f4, g4, by rw [n4]; exact in_nI hj (by decide), ?_⟩
    rw [v]
    by_cases cz : cmV x j = 0
    · refine if_p (w9.mpr cz) ?_
      rw [← nI_succ]
      exact hk9 _ _ ⟨rfl, D1, r1, s1, by rw [mkCm_n cz]; exact x1⟩
    · obtain ⟨a1, a2, a3, a4⟩ := nx_spec (cmV x) (i := j + 1) (by omega)
      have hr := rdq_w h0 (nx_spec (cmV x) (i := j + 1) (by omega))
      refine if_n (fun q => cz (w9.mp q)) (p_nextWished r1 hc hc8 x1 hv1 hj ⟨g0, ?_⟩)
      rw [eV]
      refine p_wishedRound r1 hc hc8 x1 a2 ⟨g0, ?_⟩
      rw [eV, nI_sub (by omega), wI_p hr]
      obtain ⟨b1, b2⟩ := mkCm_ok hK hv h0 hw j (by omega)
      have hn : cmN (mkCm (cmV x) w x j) < 24 := by
        have := sumN_ge (f := cmL (mkCm (cmV x) w x j)) (cmN (mkCm (cmV x) w x j)) (fun i hi => (b1.2.2.1 i hi).1)
        rw [b2, nx_at hj cz] at this
        omega
      refine p_append r1 hc hc8 x1 b1 hn hw (fun S2 D2 r2 s2 x2 => ?_)
      rw [← nI_succ]
      exact hk9 _ _ ⟨rfl, D2, r2, s1.tr s2, by rw [mkCm_y cz]; exact x2⟩
  · rintro S1 _ k9 ⟨rfl, D1, r1, s1, x1⟩
    unfold wX1_followWishes_b6
    exact if_p (nI_le (Nat.le_refl 24) (by decide)) (kk S1 D1 r1 s1 x1)
theorem p_makeC {Φ : Hp → Int32 → Prop} {Ψ : Hp → String → Prop} {ns : Nat} {x1 x2 x3 : Int32} {K : Nat → Cm} (h : Rep A E ls nl nc nd S D) (hls : ls 2 = (List.range nc).map (fun c => A (500 + 5 * c))) (h8 : nc ≤ 8) (hx : ∀ c, c < nc → CmC (K c) c D ∧ CmK ns (K c))
    (kt1 : ¬ inR x1 nc → Ψ S "java/lang/IndexOutOfBoundsException") (kt2 : inR x1 nc → ¬ ((x2 = 117 ∨ x2 = 112) ∧ (1 ≤ x3.toInt ∧ x3.toInt ≤ 99)) → Ψ S "java/lang/IllegalArgumentException")
    (kt3 : ∀ c, c < nc → x1 = nI c → ((x2 = 117 ∨ x2 = 112) ∧ (1 ≤ x3.toInt ∧ x3.toInt ≤ 99)) → cmV (K c) 0 = 0 → Ψ S "java/util/NoSuchElementException")
    (kt4 : ∀ c w b, c < nc → (w = 117 ∨ w = 112) → (1 ≤ b ∧ b ≤ 99) → x1 = nI c → x2 = nI w → x3 = nI b → cmV (K c) 0 ≠ 0 → okW (cmV (K c)) w b 24 = false → Ψ S "java/lang/UnsupportedOperationException")
    (kk : ∀ c w b, c < nc → (w = 117 ∨ w = 112) → (1 ≤ b ∧ b ≤ 99) → x1 = nI c → x2 = nI w → x3 = nI b → cmV (K c) 0 ≠ 0 → okW (cmV (K c)) w b 24 = true → ∀ S' D', Rep A E ls nl nc nd S' D' → SamG (fun i r => (i = 69 ∨ i = 70) ∧ r = 500 + 5 * c) (fun r => r = 501 + 5 * c ∨ r = 502 + 5 * c ∨ r = 503 + 5 * c) (fun _ => False) D D' → CmC (mkCm (cmV (K c)) w (K c) 24) c D' → Φ S' (nI (cmN (mkCm (cmV (K c)) w (K c) 24)))) : wX7_make S (A 0) x1 x2 x3 Φ Ψ := by
  unfold wX7_make wX7_make_b0
  refine ⟨c_is h, p_camAt h hls h8 (fun c hc e => ⟨_, rfl, p_checkLaw (fun w hw ew => p_checkRange (fun b1 b2 => ?_) (fun q => kt2 (by rw [e]; exact inR_nI hc (by omega)) (fun w => q w.2))) (fun q1 q2 => kt2 (by rw [e]; exact inR_nI hc (by omega)) (fun w => by rcases w.1 with w | w; exact q1 w; exact q2 w))⟩) kt1⟩
  obtain ⟨hC, hK⟩ := hx c hc
  obtain ⟨l0, l1, l2, l3, l4⟩ := cam_al (nl := nl) (nd := nd) hc
  obtain ⟨g0, f1, f2, f3, f4, g1, g2, g3, g4, n1, n2, n3, n4⟩ := cam_ h hc (by omega)
  have b1' : (1 : Int) ≤ x3.toInt := b1
  have b2' : x3.toInt ≤ 99 := b2
  obtain ⟨b, hb, eb⟩ := inR_ex (x := x3) (n := 100) ⟨by omega, by omega⟩ (by decide)
  have b19 : 1 ≤ b := by
    have b18 : (1 : Int) ≤ x3.toInt := by first | exact b1' | exact b1 | omega
    rw [eb, nI_toInt (by omega)] at b18
    omega
  have v : S.AI (A (504 + 5 * c)) (0 : Int32).toNatClampNeg = nI (cmV (K c) 0) - 1 := rd_I (i := 0) h l4 (by omega) (hC.2.2.2.2 0 (by decide))
  have w9 := wI_m1 (n := cmV (K c) 0) (by have := hK.2.2.2 0 (by decide); omega)
  refine ⟨g0, _, f4, g4, by rw [n4]; exact in_nI (i := 0) (by decide) (by decide), ?_⟩
  rw [v]
  by_cases cz : cmV (K c) 0 = 0
  · exact fi_p (w9.mpr cz) (kt3 c hc e ⟨by rw [ew]; rcases hw with hw | hw <;> rw [hw]; exact Or.inl rfl; exact Or.inr rfl, b1', b2'⟩ cz)
  · refine fi_n (fun q => cz (w9.mp q)) ?_
    rw [ew, eb]
    refine p_areSteeper h hc (by omega) hC hK.2.2.2 cz hw (by omega) ?_
    cases eo : okW (cmV (K c)) w b 24 with
    | false => exact if_n (by decide) (kt4 c w b hc hw ⟨b19, by omega⟩ e ew eb cz eo)
    | true =>
      refine if_p rfl ⟨g0, p_followWishes h hc (by omega) hC hK cz hw (fun S' D' r' s' x' => ⟨(cam_ r' hc (by omega)).1, ?_⟩)⟩
      have v69 : S'.FI 69 (A (500 + 5 * c)) = nI (cmN (mkCm (cmV (K c)) w (K c) 24)) := (rep_FI r' 69 (by decide) l0).trans x'.2.1
      rw [v69]
      exact kk c w b hc hw ⟨b19, by omega⟩ e ew eb cz eo S' D' r' s' x'
theorem bI_and (a b : Bool) : bI a &&& bI b = bI (a && b) := by
  cases a <;> cases b <;> rfl
/-- a wish, read -/
theorem rd_wish (h : Rep A E ls nl nc nd S D) {c j : Nat} {x : Cm} (hc : c < 8) (hj : j < 24) (hx : CmM x c D) {K9 : Int32 → Prop} (k : K9 (nI (cmV x j) - 1)) : isA S (A 70) 8 ∧ ∃ a5, S.FR 539 (A 70) = some a5 ∧ isA S a5 26 ∧ vp_in (nI c) (S.N a5) ∧ ∃ a8, S.AR a5 (nI c).toNatClampNeg = some a8 ∧ isA S a8 21 ∧ vp_in (nI j) (S.N a8) ∧ K9 (S.AI a8 (nI j).toNatClampNeg) := by
  have a99 := m_arr h 539 99 26 8
  obtain ⟨-, -, -, f4, -, -, -, g4, -, -, -, n4⟩ := rw_ h hc
  obtain ⟨l1, l2, l3, l4⟩ := rw_al (nl := nl) (nc := nc) (nd := nd) hc
  have v : S.AI (A (230 + c)) (nI j).toNatClampNeg = nI (cmV x j) - 1 := rd_I h l4 (by omega) (hx.2.2.2 j hj)
  refine ⟨m_is h, A 99, a99.1, a99.2.1, by rw [a99.2.2]; exact in_nI hc (by decide), A (230 + c), by rw [cl_nI (by omega)]; exact f4, g4, by rw [n4]; exact in_nI hj (by decide), ?_⟩
  rw [v]
  exact k
theorem p_makeM {Φ : Hp → Int32 → Prop} {ns n : Nat} {x1 x2 x3 : Int32} {K : Nat → Cm} (h : Rep A E ls nl nc nd S D) (hn : D.FI 545 70 = nI n) (h8 : n ≤ 8) (hx : ∀ c, c < n → CmM (K c) c D ∧ CmK ns (K c))
    (kt1 : ¬ inR x1 n → ∀ S' D', Rep A E ls nl nc nd S' D' → Thr 1 D D' → Φ S' 0) (kt2 : inR x1 n → ¬ ((x2 = 117 ∨ x2 = 112) ∧ (1 ≤ x3.toInt ∧ x3.toInt ≤ 99)) → ∀ S' D', Rep A E ls nl nc nd S' D' → Thr 2 D D' → Φ S' 0)
    (kt3 : ∀ c, c < n → x1 = nI c → ((x2 = 117 ∨ x2 = 112) ∧ (1 ≤ x3.toInt ∧ x3.toInt ≤ 99)) → cmV (K c) 0 = 0 → ∀ S' D', Rep A E ls nl nc nd S' D' → Thr 3 D D' → Φ S' 0)
    (kt4 : ∀ c w b, c < n → (w = 117 ∨ w = 112) → (1 ≤ b ∧ b ≤ 99) → x1 = nI c → x2 = nI w → x3 = nI b → cmV (K c) 0 ≠ 0 → okW (cmV (K c)) w b 24 = false → ∀ S' D', Rep A E ls nl nc nd S' D' → Thr 4 D D' → Φ S' 0)
    (kk : ∀ c w b, c < n → (w = 117 ∨ w = 112) → (1 ≤ b ∧ b ≤ 99) → x1 = nI c → x2 = nI w → x3 = nI b → cmV (K c) 0 ≠ 0 → okW (cmV (K c)) w b 24 = true → ∀ S' D', Rep A E ls nl nc nd S' D' → SamG (fun i r => i = 549 ∧ r = 70) (fun r => r = 95 ∨ r = 200 + c ∨ r = 210 + c ∨ r = 220 + c) (fun _ => False) D D' → D'.FI 549 70 = 0 → (∀ i, i ≠ c → D'.AI 95 i = D.AI 95 i) → CmM (mkCm (cmV (K c)) w (K c) 24) c D' → Φ S' (nI (cmN (mkCm (cmV (K c)) w (K c) 24)))) : wX8_make S (A 70) x1 x2 x3 Φ := by
  unfold wX8_make wX8_make_b0 wX8_make_b31
  refine ⟨m_is h, g_C h hn (by omega) (fun c hc e S1 D1 r1 t1 => fi_p rfl ?_) (fun q S1 D1 r1 t1 => fi_n (by decide) (kt1 q S1 D1 r1 t1))⟩
  have hin : inR x1 n := by
    rw [e]
    exact inR_nI hc (by omega)
  unfold wX8_make_b36
  refine t_isLaw ?_
  by_cases c1 : x2 = 117 ∨ x2 = 112
  · rw [decide_eq_true c1]
    refine if_n (by decide) (t_isIn ?_)
    by_cases c2 : (1 : Int32).toInt ≤ x3.toInt ∧ x3.toInt ≤ (99 : Int32).toInt
    · rw [decide_eq_true c2]
      refine fi_n (by decide) (g_0 r1 t1 (fun S2 D2 r2 t2 => fi_p rfl ?_))
      have b1' : (1 : Int) ≤ x3.toInt := c2.1
      have b2' : x3.toInt ≤ 99 := c2.2
      obtain ⟨hC, hK⟩ := hx c hc
      have hC2 := cmM_thr hC t2
      have hv := hK.2.2.2
      obtain ⟨w, hw, ew⟩ : ∃ w : Nat, (w = 117 ∨ w = 112) ∧ x2 = nI w := by
        rcases c1 with c1 | c1
        · exact ⟨117, Or.inl rfl, c1⟩
        · exact ⟨112, Or.inr rfl, c1⟩
      obtain ⟨b, hb, eb⟩ := inR_ex (x := x3) (n := 100) ⟨by omega, by omega⟩ (by decide)
      have b19 : 1 ≤ b := by
        have b18 : (1 : Int) ≤ x3.toInt := by first | exact b1' | exact b1 | omega
        rw [eb, nI_toInt (by omega)] at b18
        omega
      have w9 := wI_m1 (n := cmV (K c) 0) (by have := hv 0 (by decide); omega)
      subst e
      have c8 : c < 8 := by omega
      obtain ⟨l1, l2, l3, l4⟩ := rw_al (nl := nl) (nc := nc) (nd := nd) c8
      have cc : (nI c).toNatClampNeg = c := cl_nI (by omega)
      unfold wX8_make_b61
      refine rd_wish (j := 0) (K9 := fun v => (¬ v = -1 → isA S2 (A 70) 8 ∧ wX8_isThrown S2 (A 70) 0 3 _) ∧ (v = -1 → isA S2 (A 70) 8 ∧ wX8_isThrown S2 (A 70) 1 3 _)) r2 c8 (by decide) hC2 ?_
      by_cases cz : cmV (K c) 0 = 0
      · exact fi_p (w9.mpr cz) (g_1 r2 t2 (fun S3 D3 r3 t3 => if_n (by decide) (kt3 c hc rfl ⟨c1, b1', b2'⟩ cz S3 D3 r3 t3)))
      · refine fi_n (fun q => cz (w9.mp q)) (g_0 r2 t2 (fun S3 D3 r3 t3 => if_p rfl ?_))
        have hC3 := cmM_thr hC t3
        -- the second loop
        have build : okW (cmV (K c)) w b 24 = true → ∀ S4 D4, Rep A E ls nl nc nd S4 D4 → Thr 0 D D4 → CmM (cmClr (K c)) c (D4.setAI 95 c 0) → ∀ S5, S5 = S4.setAI (A 95) c 0 → ∃ n, it3 (wX8_make_b222 (A 70) (nI c) x2 x3 Φ) n S5 0 1 := by
          intro ok S4 D4 r4 t4 m4 S5 e5
          have r5 : Rep A E ls nl nc nd S5 (D4.setAI 95 c 0) := by
            rw [e5]
            exact set_AI r4 c 0 (al_s (by decide))
          have s5 : SamG (fun i r => i = 549 ∧ r = 70) (fun r => r = 95 ∨ r = 200 + c ∨ r = 210 + c ∨ r = 220 + c) (fun _ => False) D (D4.setAI 95 c 0) := SamG.tr (t4.1.wk (fun _ _ q => q) (fun _ q => absurd q (fun q => q)) (fun _ q => q)) (samG_I (Or.inl rfl))
          have o5 : ∀ i, i ≠ c → (D4.setAI 95 c 0).AI 95 i = D.AI 95 i := fun i hi => by
            rw [dtAI_n (fun q => hi q.2), t4.AI]
          have f5 : (D4.setAI 95 c 0).FI 549 70 = 0 := t4.2
          generalize D4.setAI 95 c 0 = D5 at *
          refine it3_ex (fun i T a v => v = nI (i + 1) ∧ ∃ D9 l, Rep A E ls nl nc nd T D9 ∧ SamG (fun i r => i = 549 ∧ r = 70) (fun r => r = 95 ∨ r = 200 + c ∨ r = 210 + c ∨ r = 220 + c) (fun _ => False) D D9 ∧ D9.FI 549 70 = 0 ∧ (∀ j, j ≠ c → D9.AI 95 j = D.AI 95 j) ∧ a = nI l ∧ l < i + 1 ∧ CmM (mkCm (cmV (K c)) w (K c) l) c D9 ∧ (i < 24 → cmV (K c) l ≠ 0 ∧ ∀ t, l < t → t < i + 1 → cmV (K c) t = 0) ∧ (i = 24 → l = 24)) 24 ?_ ?_ ⟨rfl, D5, 0, r5, s5, f5, o5, rfl, by decide, m4, fun _ => ⟨cz, fun t h1 h2 => absurd h2 (by omega)⟩, fun q => absurd q (by decide)⟩
          · rintro i hi T _ _ k9 ⟨rfl, D9, l, r9, s9, f9, o9, rfl, ll, m9, wl, -⟩ hk9
            obtain ⟨wl1, wl2⟩ := wl hi
            have eV := mkCm_V (V := cmV (K c)) (w := w) (x := K c) l
            unfold wX8_make_b222
            -- one more, at q = i + 1
            have more : ∀ u, u = rdq (i + 1) → wX8_make_b256 (A 70) (nI c) x2 x3 Φ k9 T (nI l) (nI (i + 1)) (nI (cmV (mkCm (cmV (K c)) w (K c) l) u) - 1) := by
              intro u hu
              have hvu := hv u (by rw [hu]; exact rdq_lt _)
              have w8 := wI_m1 (n := cmV (K c) u) (by omega)
              rw [eV]
              unfold wX8_make_b256 wX8_make_b281
              by_cases cu : cmV (K c) u = 0
              · refine if_p (w8.mpr cu) ?_
                rw [← nI_succ]
                have i24 : i + 1 < 24 := by
                  by_cases ci : i + 1 < 24
                  · exact ci
                  · have : u = 0 := by rw [hu]; exact if_neg ci
                    rw [this] at cu
                    exact absurd cu cz
                have eu : u = i + 1 := by rw [hu]; exact if_pos i24
                refine hk9 _ _ _ ⟨rfl, D9, l, r9, s9, f9, o9, rfl, by omega, m9, fun _ => ⟨wl1, fun t h1 h2 => ?_⟩, fun q => absurd q (by omega)⟩
                by_cases ct : t = i + 1
                · rw [ct, ← eu]
                  exact cu
                · exact wl2 t h1 (by omega)
              · have nxe : nx (cmV (K c)) (l + 1) = i + 1 := nx_uniq (nx_spec _ (by omega)) ⟨by omega, by omega, fun t h1 h2 => wl2 t (by omega) h2, fun q => by
                  have eu : u = i + 1 := by rw [hu]; exact if_pos q
                  rw [← eu]
                  exact cu⟩
                refine if_n (fun q => cu (w8.mp q)) ⟨m_is r9, ?_⟩
                obtain ⟨b1, b2⟩ := mkCm_ok hK hv cz hw l (by omega)
                have hnl : cmN (mkCm (cmV (K c)) w (K c) l) < 24 := by
                  have := sumN_ge (f := cmL (mkCm (cmV (K c)) w (K c) l)) (cmN (mkCm (cmV (K c)) w (K c) l)) (fun i hi => (b1.2.2.1 i hi).1)
                  rw [b2, nx_at (by omega) wl1] at this
                  omega
                rw [nI_sub (by omega), wI_p cu, ew]
                refine p_adds r9 c8 m9 hnl hw (fun S2 D2 r2 s2 o2 m2 => ?_)
                rw [← nI_succ]
                have em : mkCm (cmV (K c)) w (K c) (i + 1) = cmApp (mkCm (cmV (K c)) w (K c) l) (i + 1 - l) (cmV (K c) u - 1) w := by
                  rw [mkCm_stay (i + 1) (by omega) wl2, mkCm_y wl1, nxe, hu]
                refine hk9 _ _ _ ⟨rfl, D2, i + 1, r2, s9.tr (s2.wk (fun _ _ q => absurd q (fun q => q)) (fun _ q => q) (fun _ q => q)), (s2.1 _ _ (fun q => q)).trans f9, fun j hj => (o2 j hj).trans (o9 j hj), rfl, by omega, by rw [em]; exact m2, fun q => ⟨?_, fun t h1 h2 => absurd h2 (by omega)⟩, fun q => q⟩
                have eu : u = i + 1 := by rw [hu]; exact if_pos q
                rw [← eu]
                exact cu
            refine if_n (nI_nlt (a := 24) (b := i + 1) (by omega) (by decide)) ?_
            by_cases ci : i + 1 = 24
            · refine fi_p (by rw [ci]; rfl) ?_
              exact rd_wish (j := 0) (K9 := fun v => wX8_make_b256 (A 70) (nI c) x2 x3 Φ k9 T (nI l) (nI (i + 1)) v) r9 c8 (by decide) m9 (more 0 (by rw [ci]; rfl))
            · refine fi_n (fun q => ci ((nI_iff (b := 24) (by omega) (by decide)).mp q)) ?_
              exact rd_wish (j := i + 1) (K9 := fun v => wX8_make_b256 (A 70) (nI c) x2 x3 Φ k9 T (nI l) (nI (i + 1)) v) r9 c8 (by omega) m9 (more (i + 1) (if_pos (by omega)).symm)
          · rintro T _ _ k9 ⟨rfl, D9, l, r9, s9, f9, o9, rfl, ll, m9, -, wl⟩
            rw [wl rfl] at m9
            unfold wX8_make_b222
            have a95 := m_arr r9 535 95 21 8
            have v95 : T.AI (A 95) (nI c).toNatClampNeg = nI (cmN (mkCm (cmV (K c)) w (K c) 24)) := rd_I r9 (al_s (by decide)) (by omega) m9.2.1
            refine if_p (nI_lt (a := 24) (b := 25) (by decide) (by decide)) ⟨m_is r9, A 95, a95.1, a95.2.1, by rw [a95.2.2]; exact in_nI c8 (by decide), ?_⟩
            rw [v95]
            exact kk c w b hc hw ⟨b19, by omega⟩ rfl ew eb cz ok T D9 r9 s9 f9 o9 m9
        -- the first loop
        refine it4_ex (fun i T a l' v => T = S3 ∧ v = nI (i + 1) ∧ (i < 24 → ∃ l, l' = nI l ∧ l < i + 1 ∧ cmV (K c) l ≠ 0 ∧ (∀ t, l < t → t < i + 1 → cmV (K c) t = 0) ∧ a = bI (okW (cmV (K c)) w b l)) ∧ (i = 24 → a = bI (okW (cmV (K c)) w b 24))) 24 ?_ ?_ ⟨rfl, rfl, fun _ => ⟨0, rfl, by decide, cz, fun t h1 h2 => absurd h2 (by omega), rfl⟩, fun q => absurd q (by decide)⟩
        · rintro i hi T a l' _ k9 ⟨rfl, rfl, wl, -⟩ hk9
          obtain ⟨l, rfl, ll, wl1, wl2, rfl⟩ := wl hi
          unfold wX8_make_b79
          have more : ∀ u, u = rdq (i + 1) → wX8_make_b113 (A 70) (nI c) x2 x3 Φ k9 T (bI (okW (cmV (K c)) w b l)) (nI l) (nI (i + 1)) (nI (cmV (K c) u) - 1) := by
            intro u hu
            have hvu := hv u (by rw [hu]; exact rdq_lt _)
            have hvl := hv l (by omega)
            have w8 := wI_m1 (n := cmV (K c) u) (by omega)
            unfold wX8_make_b113 wX8_make_b183
            by_cases cu : cmV (K c) u = 0
            · refine if_p (w8.mpr cu) ?_
              rw [← nI_succ]
              have i24 : i + 1 < 24 := by
                by_cases ci : i + 1 < 24
                · exact ci
                · have : u = 0 := by rw [hu]; exact if_neg ci
                  rw [this] at cu
                  exact absurd cu cz
              have eu : u = i + 1 := by rw [hu]; exact if_pos i24
              refine hk9 _ _ _ _ ⟨rfl, rfl, fun _ => ⟨l, rfl, by omega, wl1, fun t h1 h2 => ?_, rfl⟩, fun q => absurd q (by omega)⟩
              by_cases ct : t = i + 1
              · rw [ct, ← eu]
                exact cu
              · exact wl2 t h1 (by omega)
            · have nxe : nx (cmV (K c)) (l + 1) = i + 1 := nx_uniq (nx_spec _ (by omega)) ⟨by omega, by omega, fun t h1 h2 => wl2 t (by omega) h2, fun q => by
                have eu : u = i + 1 := by rw [hu]; exact if_pos q
                rw [← eu]
                exact cu⟩
              have oks : okW (cmV (K c)) w b (i + 1) = (okW (cmV (K c)) w b l && gpW (cmV (K c)) w b l) := by
                rw [okW_stay (i + 1) (by omega) wl2, okW_s, decide_eq_false wl1, Bool.false_or]
              refine if_n (fun q => cu (w8.mp q)) ?_
              -- the end of this round
              have fin : ∀ z : Bool, z = okW (cmV (K c)) w b (i + 1) → ∀ p q : Int32, p &&& q = bI z → wX8_make_b165 (A 70) (nI c) x2 x3 Φ k9 T (nI (i + 1)) p q := by
                intro z hz p q hpq
                unfold wX8_make_b165 wX8_make_b181 wX8_make_b183
                rw [hpq, hz, ← nI_succ]
                by_cases ci : i + 1 = 24
                · refine fi_p (by rw [ci]; rfl) (hk9 _ _ _ _ ⟨rfl, rfl, fun q => absurd q (by omega), fun _ => by rw [ci]⟩)
                · have eu : u = i + 1 := by rw [hu]; exact if_pos (by omega)
                  refine fi_n (fun q => ci ((nI_iff (b := 24) (by omega) (by decide)).mp q)) (hk9 _ _ _ _ ⟨rfl, rfl, fun _ => ⟨i + 1, rfl, by omega, by rw [← eu]; exact cu, fun t h1 h2 => absurd h2 (by omega), rfl⟩, fun q => absurd q (by omega)⟩)
              have cmp : ∀ m : Nat, m = (if w = 112 then 2 else 1) → ∀ z : Int32, z = nI ((cmV (K c) u - 1 : Nat) - (cmV (K c) l - 1 : Nat) : Int).natAbs → wX8_make_b149 (A 70) (nI c) x2 x3 Φ k9 T (nI l) (nI (i + 1)) (bI (okW (cmV (K c)) w b l)) z (nI m) := by
                intro m hm z hz
                have gpe : gpW (cmV (K c)) w b l = decide (((cmV (K c) u - 1 : Nat) - (cmV (K c) l - 1 : Nat) : Int).natAbs * m ≤ b * (i + 1 - l)) := by
                  unfold gpW ris
                  rw [nxe, ← hu, hm, Nat.mul_comm]
                have m4 : b * (i + 1 - l) ≤ 99 * 24 := Nat.mul_le_mul (by omega) (by omega)
                have m5 : ((cmV (K c) u - 1 : Nat) - (cmV (K c) l - 1 : Nat) : Int).natAbs * m ≤ 200 * 2 := Nat.mul_le_mul (by omega) (by
                  rw [hm]
                  by_cases cw : w = 112
                  · rw [if_pos cw]
                    exact Nat.le_refl _
                  · rw [if_neg cw]
                    decide)
                unfold wX8_make_b149
                rw [eb, hz, nI_sub (by omega), nI_mul, nI_mul]
                by_cases cl : ((cmV (K c) u - 1 : Nat) - (cmV (K c) l - 1 : Nat) : Int).natAbs * m ≤ b * (i + 1 - l)
                · rw [decide_eq_true cl] at gpe
                  rw [gpe, Bool.and_true] at oks
                  refine if_n (nI_nlt cl (by omega)) (fin _ rfl _ 1 ?_)
                  rw [oks]
                  cases okW (cmV (K c)) w b l <;> rfl
                · rw [decide_eq_false cl] at gpe
                  rw [gpe, Bool.and_false] at oks
                  refine if_p (nI_lt (by omega) (by omega)) (fin _ rfl _ 0 ?_)
                  rw [oks]
                  cases okW (cmV (K c)) w b l <;> rfl
              have hdif := nI_dif (a := cmV (K c) l - 1) (b := cmV (K c) u - 1) (by omega) (by omega)
              refine rd_wish (j := l) (K9 := fun y => (¬ x2 = 112 → wX8_make_b149 (A 70) (nI c) x2 x3 Φ k9 T (nI l) (nI (i + 1)) (bI (okW (cmV (K c)) w b l)) (if 0 ≤ (nI (cmV (K c) u) - 1 - y) then (nI (cmV (K c) u) - 1 - y) else 0 - (nI (cmV (K c) u) - 1 - y)) 1) ∧ (x2 = 112 → wX8_make_b149 (A 70) (nI c) x2 x3 Φ k9 T (nI l) (nI (i + 1)) (bI (okW (cmV (K c)) w b l)) (if 0 ≤ (nI (cmV (K c) u) - 1 - y) then (nI (cmV (K c) u) - 1 - y) else 0 - (nI (cmV (K c) u) - 1 - y)) 2)) r3 c8 (by omega) hC3 ?_
              rw [wI_p cu, wI_p wl1, hdif]
              rcases hw with hw | hw
              · refine fi_n (by rw [ew, hw]; decide) (cmp 1 (by rw [hw]; rfl) _ rfl)
              · exact fi_p (by rw [ew, hw]; rfl) (cmp 2 (by rw [hw]; rfl) _ rfl)
          refine if_n (nI_nlt (a := 24) (b := i + 1) (by omega) (by decide)) ?_
          by_cases ci : i + 1 = 24
          · refine fi_p (by rw [ci]; rfl) ?_
            exact rd_wish (j := 0) (K9 := fun v => wX8_make_b113 (A 70) (nI c) x2 x3 Φ k9 T (bI (okW (cmV (K c)) w b l)) (nI l) (nI (i + 1)) v) r3 c8 (by decide) hC3 (more 0 (by rw [ci]; rfl))
          · refine fi_n (fun q => ci ((nI_iff (b := 24) (by omega) (by decide)).mp q)) ?_
            exact rd_wish (j := i + 1) (K9 := fun v => wX8_make_b113 (A 70) (nI c) x2 x3 Φ k9 T (bI (okW (cmV (K c)) w b l)) (nI l) (nI (i + 1)) v) r3 c8 (by omega) hC3 (more (i + 1) (if_pos (by omega)).symm)
        · rintro T a l' _ k9 ⟨rfl, rfl, -, wl⟩
          rw [wl rfl]
          unfold wX8_make_b79
          refine if_p (nI_lt (a := 24) (b := 25) (by decide) (by decide)) ?_
          unfold wX8_make_b200
          cases eo : okW (cmV (K c)) w b 24 with
          | false => exact fi_p rfl (g_1 r3 t3 (fun S4 D4 r4 t4 => if_n (by decide) (kt4 c w b hc hw ⟨b19, by omega⟩ rfl ew eb cz eo S4 D4 r4 t4)))
          | true =>
            refine fi_n (by decide) (g_0 r3 t3 (fun S4 D4 r4 t4 => if_p rfl ⟨m_is r4, ?_⟩))
            have a95 := m_arr r4 535 95 21 8
            have hC4 := cmM_thr hC t4
            refine ⟨A 95, a95.1, a95.2.1, by rw [a95.2.2]; exact in_nI c8 (by decide), fun S9 e9 => ?_⟩
            rw [cc] at e9
            refine build eo S4 D4 r4 t4 ⟨?_, ?_, fun j hj => absurd hj (Nat.not_lt_zero j), fun j hj => ?_⟩ S9 e9
            · rw [dtAI_n (by omega)]
              exact hC4.1
            · rw [dtAI_s]
              rfl
            · rw [dtAI_n (by omega)]
              exact hC4.2.2.2 j hj
    · rw [decide_eq_false c2]
      exact fi_p rfl (g_1 r1 t1 (fun S2 D2 r2 t2 => fi_n (by decide) (kt2 hin (fun q => c2 q.2) S2 D2 r2 t2)))
  · rw [decide_eq_false c1]
    exact if_p rfl (g_1 r1 t1 (fun S2 D2 r2 t2 => fi_n (by decide) (kt2 hin (fun q => c1 q.1) S2 D2 r2 t2)))
end MB9
