/-! THE REFERENCE: cam, drum, pin, struck -/
section DM9
variable {A E : Nat → Nat} {ls : Nat → List Nat} {nl nc nd : Nat} {S : Hp} {D : Dt}
theorem p_camM {Φ : Hp → Int32 → Prop} {ns n : Nat} {x : Int32} (h : Rep A E ls nl nc nd S D) (h14 : ns ≤ 14) (hns : D.FI 543 70 = nI ns) (hn : D.FI 545 70 = nI n) (h8 : n ≤ 8) (h95 : n < 8 → D.AI 95 n = 0)
    (kt1 : ¬ inR x ns → ∀ S' D', Rep A E ls nl nc nd S' D' → Thr 1 D D' → Φ S' 0) (kt2 : inR x ns → ¬ n < 8 → ∀ S' D', Rep A E ls nl nc nd S' D' → Thr 2 D D' → Φ S' 0)
    (kk : ∀ s, s < ns → x = nI s → n < 8 → ∀ S' D', Rep A E ls nl nc nd S' D' → SamG (fun i r => (i = 545 ∨ i = 549) ∧ r = 70) (fun r => r = 94 ∨ r = 230 + n) (fun _ => False) D D' → D'.FI 549 70 = 0 → D'.FI 545 70 = nI (n + 1) → (∀ i, i ≠ n → D'.AI 94 i = D.AI 94 i) → CmM (s, 0, fun _ => 0, fun _ => 0, fun _ => 0, fun _ => 0) n D' → Φ S' (nI n)) : wX8_cam S (A 70) x Φ := by
  unfold wX8_cam wX8_cam_b0 wX8_cam_b28
  refine ⟨m_is h, g_S h hns h14 (fun s hs e S1 D1 r1 t1 => fi_p rfl ⟨m_is r1, ?_⟩) (fun q S1 D1 r1 t1 => fi_n (by decide) (kt1 q S1 D1 r1 t1))⟩
  have v545 : S1.FI 545 (A 70) = nI n := (rep_FI r1 545 (by decide) m_al).trans ((t1.FI (by decide)).trans hn)
  rw [v545]
  by_cases c : n < 8
  · refine fi_n (fun q => by have := (nI_iff (b := 8) (by omega) (by decide)).mp q; omega) (g_0 r1 t1 (fun S2 D2 r2 t2 => if_p rfl ⟨m_is r2, ?_⟩))
    have cn : (nI n).toNatClampNeg = n := cl_nI (by omega)
    have c8 : ∀ m, m = 8 → vp_in (nI n) m := fun m e => by
      rw [e]
      exact in_nI c (by decide)
    have w545 : S2.FI 545 (A 70) = nI n := (rep_FI r2 545 (by decide) m_al).trans ((t2.FI (by decide)).trans hn)
    have a94 := m_arr r2 534 94 21 8
    obtain ⟨l1, l2, l3, l4⟩ := rw_al (nl := nl) (nc := nc) (nd := nd) c
    rw [w545, cn]
    refine ⟨A 94, a94.1, a94.2.1, c8 _ a94.2.2, fun S9 e9 => ?_⟩
    obtain ⟨D9, r9, u9, j9, o9, i9⟩ := t_setAI (r := 94) r2 (al_s (by decide)) e9
    refine it2_ex (fun j T v => v = nI j ∧ ∃ D', Rep A E ls nl nc nd T D' ∧ D'.FI = D9.FI ∧ D'.AJ = D9.AJ ∧ (∀ r, r ≠ 230 + n → D'.AI r = D9.AI r) ∧ ∀ i, i < j → D'.AI (230 + n) i = -1) 24 ?_ ?_ ⟨rfl, D9, r9, rfl, rfl, fun _ _ => rfl, fun i hi => absurd hi (Nat.not_lt_zero i)⟩
    · rintro j hj T _ k9 ⟨rfl, D', r', uf, uj, ui, u1⟩ hk9
      obtain ⟨-, -, -, f4, -, -, -, g4, -, -, -, n4⟩ := rw_ r' c
      have a99 := m_arr r' 539 99 26 8
      have y545 : T.FI 545 (A 70) = nI n := (rep_FI r' 545 (by decide) m_al).trans (by rw [uf, u9, t2.FI (by decide)]; exact hn)
      unfold wX8_cam_b49
      rw [y545, cn]
      refine if_n (nI_ge (b := 24) hj (by decide)) ⟨m_is r', A 99, a99.1, a99.2.1, c8 _ a99.2.2, _, f4, g4, by rw [n4]; exact in_nI hj (by decide), fun S11 e11 => ?_⟩
      rw [cl_nI (by omega)] at e11
      obtain ⟨D11, r11, u11, j11, o11, i11⟩ := t_setAI (r := 230 + n) r' l4 e11
      rw [← nI_succ]
      refine hk9 _ _ ⟨rfl, D11, r11, by rw [u11, uf], by rw [j11, uj], fun r hr => by rw [o11 r hr, ui r hr], fun i hi => ?_⟩
      rw [i11 i]
      by_cases ci : i = j
      · rw [if_pos ci]
      · rw [if_neg ci]
        exact u1 i (by omega)
    · rintro T _ k9 ⟨rfl, D', r', uf, uj, ui, u1⟩
      have y545 : T.FI 545 (A 70) = nI n := (rep_FI r' 545 (by decide) m_al).trans (by rw [uf, u9, t2.FI (by decide)]; exact hn)
      unfold wX8_cam_b49
      refine if_p (nI_le (Nat.le_refl 24) (by decide)) ⟨m_is r', fun S3 e3 => ?_⟩
      rw [y545, ← nI_succ] at e3
      obtain ⟨D3, r3, u3, j3, o3, f3⟩ := t_setFI (r := 70) (i := 545) r' m_al (by decide) e3
      have z545 : S3.FI 545 (A 70) = nI (n + 1) := (rep_FI r3 545 (by decide) m_al).trans f3
      rw [z545, nI_pred]
      refine kk s hs e c S3 D3 r3 ⟨fun i r hr => ?_, fun r hr => ?_, fun r _ => ?_⟩ ?_ f3 (fun i hi => ?_) ⟨?_, ?_, fun j hj => absurd hj (Nat.not_lt_zero j), fun j hj => ?_⟩
      · rw [o3 i r (fun q => hr ⟨Or.inl q.1, q.2⟩), uf, u9]
        exact t2.1.1 i r (fun q => hr ⟨Or.inr q.1, q.2⟩)
      · rw [u3, ui r (fun q => hr (Or.inr q)), o9 r (fun q => hr (Or.inl q)), t2.AI]
      · rw [j3, uj, j9, t2.AJ]
      · rw [o3 _ _ (by decide), uf, u9]
        exact t2.2
      · rw [u3, ui 94 (by omega), i9 i, if_neg hi, t2.AI]
      · rw [u3, ui 94 (by omega), i9 n, if_pos rfl, e]
        rfl
      · rw [u3, ui 95 (by omega), o9 95 (by decide), t2.AI]
        exact h95 c
      · rw [u3, u1 j hj]
        rfl
  · have e8 : n = 8 := by omega
    exact fi_p (by rw [e8]; rfl) (g_1 r1 t1 (fun S2 D2 r2 t2 => if_n (by decide) (kt2 (by rw [e]; exact inR_nI hs (by omega)) c S2 D2 r2 t2)))
theorem p_drumM {Φ : Hp → Int32 → Prop} {ns n : Nat} {x : Int32} (h : Rep A E ls nl nc nd S D) (h14 : ns ≤ 14) (hns : D.FI 543 70 = nI ns) (hn : D.FI 546 70 = nI n) (h4 : n ≤ 4)
    (kt1 : ¬ inR x ns → ∀ S' D', Rep A E ls nl nc nd S' D' → Thr 1 D D' → Φ S' 0) (kt2 : inR x ns → ¬ n < 4 → ∀ S' D', Rep A E ls nl nc nd S' D' → Thr 2 D D' → Φ S' 0)
    (kk : ∀ s, s < ns → x = nI s → n < 4 → ∀ S' D', Rep A E ls nl nc nd S' D' → SamG (fun i r => (i = 546 ∨ i = 549) ∧ r = 70) (fun r => r = 100) (fun _ => False) D D' → D'.FI 549 70 = 0 → D'.FI 546 70 = nI (n + 1) → (∀ i, D'.AI 100 i = if i = n then nI s else D.AI 100 i) → Φ S' (nI n)) : wX8_drum S (A 70) x Φ := by
  unfold wX8_drum wX8_drum_b0 wX8_drum_b27
  refine ⟨m_is h, g_S h hns h14 (fun s hs e S1 D1 r1 t1 => fi_p rfl ⟨m_is r1, ?_⟩) (fun q S1 D1 r1 t1 => fi_n (by decide) (kt1 q S1 D1 r1 t1))⟩
  have v545 : S1.FI 546 (A 70) = nI n := (rep_FI r1 546 (by decide) m_al).trans ((t1.FI (by decide)).trans hn)
  rw [v545]
  by_cases c : n < 4
  · refine fi_n (fun q => by have := (nI_iff (b := 4) (by omega) (by decide)).mp q; omega) (g_0 r1 t1 (fun S2 D2 r2 t2 => if_p rfl ⟨m_is r2, ?_⟩))
    have cn : (nI n).toNatClampNeg = n := cl_nI (by omega)
    have w545 : S2.FI 546 (A 70) = nI n := (rep_FI r2 546 (by decide) m_al).trans ((t2.FI (by decide)).trans hn)
    have a94 := m_arr r2 540 100 21 4
    rw [w545, cn]
    refine ⟨A 100, a94.1, a94.2.1, by rw [a94.2.2]; exact in_nI c (by decide), fun S9 e9 => ?_⟩
    obtain ⟨D9, r9, u9, j9, o9, i9⟩ := t_setAI (r := 100) r2 (al_s (by decide)) e9
    have y545 : S9.FI 546 (A 70) = nI n := (rep_FI r9 546 (by decide) m_al).trans (by rw [u9, t2.FI (by decide)]; exact hn)
    intro S3 e3
    rw [y545, ← nI_succ] at e3
    obtain ⟨D3, r3, u3, j3, o3, f3⟩ := t_setFI (r := 70) (i := 546) r9 m_al (by decide) e3
    have z545 : S3.FI 546 (A 70) = nI (n + 1) := (rep_FI r3 546 (by decide) m_al).trans f3
    rw [z545, nI_pred]
    refine kk s hs e c S3 D3 r3 ⟨fun i r hr => ?_, fun r hr => ?_, fun r _ => ?_⟩ ?_ f3 (fun i => ?_)
    · rw [o3 i r (fun q => hr ⟨Or.inl q.1, q.2⟩), u9]
      exact t2.1.1 i r (fun q => hr ⟨Or.inr q.1, q.2⟩)
    · rw [u3, o9 r hr, t2.AI]
    · rw [j3, j9, t2.AJ]
    · rw [o3 _ _ (by decide), u9]
      exact t2.2
    · rw [u3, i9 i, t2.AI, e]
  · have e8 : n = 4 := by omega
    exact fi_p (by rw [e8]; rfl) (g_1 r1 t1 (fun S2 D2 r2 t2 => if_n (by decide) (kt2 (by rw [e]; exact inR_nI hs (by omega)) c S2 D2 r2 t2)))
theorem p_struckM {Φ : Hp → Int32 → Prop} {n : Nat} {x1 x2 : Int32} (h : Rep A E ls nl nc nd S D) (hn : D.FI 546 70 = nI n) (h4 : n ≤ 4)
    (kt1 : ¬ inR x1 n → ∀ S' D', Rep A E ls nl nc nd S' D' → Thr 1 D D' → Φ S' 0) (kt2 : inR x1 n → ¬ (0 ≤ x2.toInt ∧ x2.toInt ≤ 7) → ∀ S' D', Rep A E ls nl nc nd S' D' → Thr 2 D D' → Φ S' 0)
    (kk : ∀ d t, d < n → t < 8 → x1 = nI d → x2 = nI t → ∀ S' D', Rep A E ls nl nc nd S' D' → Thr 0 D D' → Φ S' (D.AI (240 + d) t)) : wX8_struck S (A 70) x1 x2 Φ := by
  unfold wX8_struck wX8_struck_b0 wX8_struck_b36
  refine ⟨m_is h, g_D h hn (by omega) (fun d hd e S1 D1 r1 t1 => fi_p rfl (t_isIn ?_)) (fun q S1 D1 r1 t1 => fi_n (by decide) (kt1 q S1 D1 r1 t1))⟩
  have hin : inR x1 n := by
    rw [e]
    exact inR_nI hd (by omega)
  unfold wX8_struck_b29 wX8_struck_b36
  by_cases c : (0 : Int32).toInt ≤ x2.toInt ∧ x2.toInt ≤ (7 : Int32).toInt
  · rw [decide_eq_true c]
    refine fi_n (by decide) (g_0 r1 t1 (fun S2 D2 r2 t2 => if_p rfl ⟨m_is r2, ?_⟩))
    have a1' : (0 : Int) ≤ x2.toInt := c.1
    have a2' : x2.toInt ≤ 7 := c.2
    obtain ⟨t, ht, rfl⟩ := inR_ex (x := x2) (n := 8) ⟨a1', by omega⟩ (by decide)
    subst e
    have gd := grid_d r2 (d := d) (by omega)
    have a102 := m_arr r2 542 102 26 4
    have v : S2.AI (A (240 + d)) (nI t).toNatClampNeg = D.AI (240 + d) t := rd_I r2 (str_al (by omega)) (by omega) (by rw [t2.AI])
    refine ⟨A 102, a102.1, a102.2.1, by rw [a102.2.2]; exact in_nI (by omega) (by decide), A (240 + d), by rw [cl_nI (by omega)]; exact gd.1, gd.2.2.2.1, by rw [gd.2.2.2.2.2.2.1]; exact in_nI ht (by decide), ?_⟩
    rw [v]
    exact kk d t hd ht rfl rfl S2 D2 r2 t2
  · rw [decide_eq_false c]
    exact fi_p rfl (g_1 r1 t1 (fun S2 D2 r2 t2 => if_n (by decide) (kt2 hin c S2 D2 r2 t2)))
theorem p_pinM {Φ : Hp → Int32 → Prop} {n : Nat} {x1 x2 x3 : Int32} {v : Bool} {pn : Nat → Nat → Nat → Bool} (h : Rep A E ls nl nc nd S D) (hn : D.FI 546 70 = nI n) (h4 : n ≤ 4) (hpn : PinM pn D)
    (kt1 : ¬ inR x1 n → ∀ S' D', Rep A E ls nl nc nd S' D' → Thr 1 D D' → Φ S' 0) (kt2 : inR x1 n → ¬ ((0 ≤ x2.toInt ∧ x2.toInt ≤ 23) ∧ (0 ≤ x3.toInt ∧ x3.toInt ≤ 7)) → ∀ S' D', Rep A E ls nl nc nd S' D' → Thr 2 D D' → Φ S' 0)
    (kk : ∀ d p t, d < n → p < 24 → t < 8 → x1 = nI d → x2 = nI p → x3 = nI t → ∀ S' D', Rep A E ls nl nc nd S' D' → SamG (fun i r => i = 549 ∧ r = 70) (fun r => r = 300 + 24 * d + p) (fun _ => False) D D' → D'.FI 549 70 = 0 → PinM (pup pn d p t v) D' → Φ S' (bI (pn d p t))) : wX8_pin S (A 70) x1 x2 x3 (bI v) Φ := by
  unfold wX8_pin wX8_pin_b0 wX8_pin_b34 wX8_pin_b39
  refine ⟨m_is h, g_D h hn (by omega) (fun d hd e S1 D1 r1 t1 => fi_p rfl ?_) (fun q S1 D1 r1 t1 => fi_n (by decide) (kt1 q S1 D1 r1 t1))⟩
  have hin : inR x1 n := by
    rw [e]
    exact inR_nI hd (by omega)
  refine t_isIn ?_
  by_cases c1 : (0 : Int32).toInt ≤ x2.toInt ∧ x2.toInt ≤ (23 : Int32).toInt
  · rw [decide_eq_true c1]
    refine if_n (by decide) (t_isIn ?_)
    by_cases c2 : (0 : Int32).toInt ≤ x3.toInt ∧ x3.toInt ≤ (7 : Int32).toInt
    · rw [decide_eq_true c2]
      refine fi_n (by decide) (g_0 r1 t1 (fun S2 D2 r2 t2 => if_p rfl ⟨m_is r2, ?_⟩))
      have a1' : (0 : Int) ≤ x2.toInt := c1.1
      have a2' : x2.toInt ≤ 23 := c1.2
      have b1' : (0 : Int) ≤ x3.toInt := c2.1
      have b2' : x3.toInt ≤ 7 := c2.2
      obtain ⟨p, hp, rfl⟩ := inR_ex (x := x2) (n := 24) ⟨a1', by omega⟩ (by decide)
      obtain ⟨t, ht, rfl⟩ := inR_ex (x := x3) (n := 8) ⟨b1', by omega⟩ (by decide)
      subst e
      have cc : (nI d).toNatClampNeg = d := cl_nI (by omega)
      have cp : (nI p).toNatClampNeg = p := cl_nI (by omega)
      have ct : (nI t).toNatClampNeg = t := cl_nI (by omega)
      obtain ⟨q1, q2, q3, q4, q5, q6, q7, q8⟩ := grid_d r2 (d := d) (by omega)
      have a101 := m_arr r2 541 101 29 4
      have v4 : vp_in (nI d) (S2.N (A 101)) := by
        rw [a101.2.2]
        exact in_nI (by omega) (by decide)
      have v24 : vp_in (nI p) (S2.N (A (250 + d))) := by
        rw [q8]
        exact in_nI hp (by decide)
      have v8 : vp_in (nI t) (S2.N (A (300 + 24 * d + p))) := by
        rw [(q6 p hp).2]
        exact in_nI ht (by decide)
      have v0 : S2.AI (A (300 + 24 * d + p)) t = bI (pn d p t) := (rep_AI r2 t (pin_al (by omega) hp)).trans (by rw [t2.AI]; exact hpn d p t (by omega) hp ht)
      rw [cc, cp, ct]
      refine ⟨A 101, a101.1, a101.2.1, v4, A (250 + d), q2, q5, v24, _, q3 p hp, (q6 p hp).1, v8, A 101, a101.1, a101.2.1, v4, A (250 + d), q2, q5, v24, _, q3 p hp, (q6 p hp).1, v8, nb_bI v, fun S3 e3 => ?_⟩
      rw [v0]
      obtain ⟨D3, r3, u3, j3, o3, i3⟩ := t_setAI (r := 300 + 24 * d + p) r2 (pin_al (by omega) hp) e3
      refine ⟨narrow_bI _, kk d p t hd hp ht rfl rfl rfl S3 D3 r3 ⟨fun i r hr => by rw [u3]; exact t2.1.1 i r hr, fun r hr => by rw [o3 r hr, t2.AI], fun r _ => by rw [j3, t2.AJ]⟩ (by rw [u3]; exact t2.2) (fun d' p' t' hd' hp' ht' => ?_)⟩
      unfold pup
      by_cases cd : d' = d ∧ p' = p
      · obtain ⟨rfl, rfl⟩ := cd
        rw [i3 t']
        by_cases c9 : t' = t
        · rw [if_pos c9, if_pos ⟨rfl, rfl, c9⟩]
        · rw [if_neg c9, if_neg (fun q => c9 q.2.2), t2.AI]
          exact hpn d' p' t' hd' hp' ht'
      · rw [if_neg (fun q => cd ⟨q.1, q.2.1⟩), o3 _ (by omega), t2.AI]
        exact hpn d' p' t' hd' hp' ht'
    · rw [decide_eq_false c2]
      exact fi_p rfl (g_1 r1 t1 (fun S2 D2 r2 t2 => if_n (by decide) (kt2 hin (fun q => c2 q.2) S2 D2 r2 t2)))
  · rw [decide_eq_false c1]
    exact if_p rfl (g_1 r1 t1 (fun S2 D2 r2 t2 => if_n (by decide) (kt2 hin (fun q => c1 q.1) S2 D2 r2 t2)))
end DM9
