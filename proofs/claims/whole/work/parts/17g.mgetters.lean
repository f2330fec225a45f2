/-! THE REFERENCE: guards; repair, isBroken, driver, freedom, places, wear -/
section GM9
variable {A E : Nat → Nat} {ls : Nat → List Nat} {nl nc nd : Nat} {S : Hp} {D : Dt} {G : Nat → Nat → Nat}
theorem inRb_f {x : Int32} {n : Nat} (hb : (!inRb x n) = false) : inR x n := inRb_t.mp (by cases e : inRb x n; rw [e] at hb; exact absurd hb (by decide); rfl)
theorem inRb_n {x : Int32} {n : Nat} (hb : (!inRb x n) = true) : ¬ inR x n := fun q => by rw [inRb_t.mpr q] at hb; exact absurd hb (by decide)
theorem g_S {K : Hp → Int32 → Prop} {ns : Nat} {x c : Int32} (h : Rep A E ls nl nc nd S D) (hns : D.FI 543 70 = nI ns) (h14 : ns ≤ 14) (k0 : ∀ s, s < ns → x = nI s → ∀ S' D', Rep A E ls nl nc nd S' D' → Thr 0 D D' → K S' 0) (k1 : ¬ inR x ns → ∀ S' D', Rep A E ls nl nc nd S' D' → Thr c D D' → K S' 1) : wX8_isNoShaft S (A 70) x (fun S1 r2 => isA S1 (A 70) 8 ∧ wX8_isThrown S1 (A 70) r2 c K) := by
  refine t_isNoShaft h hns h14 ⟨m_is h, t_isThrown _ h rfl (fun hb => ?_) (fun hb => k1 (inRb_n hb))⟩
  obtain ⟨s, hs, e⟩ := inR_ex (inRb_f hb) (by omega)
  exact k0 s hs e
theorem g_L {K : Hp → Int32 → Prop} {n : Nat} {x c : Int32} (h : Rep A E ls nl nc nd S D) (hn : D.FI 544 70 = nI n) (h14 : n ≤ 16) (k0 : ∀ s, s < n → x = nI s → ∀ S' D', Rep A E ls nl nc nd S' D' → Thr 0 D D' → K S' 0) (k1 : ¬ inR x n → ∀ S' D', Rep A E ls nl nc nd S' D' → Thr c D D' → K S' 1) : wX8_isNoLink S (A 70) x (fun S1 r2 => isA S1 (A 70) 8 ∧ wX8_isThrown S1 (A 70) r2 c K) := by
  refine t_isNoLink h hn h14 ⟨m_is h, t_isThrown _ h rfl (fun hb => ?_) (fun hb => k1 (inRb_n hb))⟩
  obtain ⟨s, hs, e⟩ := inR_ex (inRb_f hb) (by omega)
  exact k0 s hs e
theorem g_C {K : Hp → Int32 → Prop} {n : Nat} {x c : Int32} (h : Rep A E ls nl nc nd S D) (hn : D.FI 545 70 = nI n) (h14 : n ≤ 16) (k0 : ∀ s, s < n → x = nI s → ∀ S' D', Rep A E ls nl nc nd S' D' → Thr 0 D D' → K S' 0) (k1 : ¬ inR x n → ∀ S' D', Rep A E ls nl nc nd S' D' → Thr c D D' → K S' 1) : wX8_isNoCam S (A 70) x (fun S1 r2 => isA S1 (A 70) 8 ∧ wX8_isThrown S1 (A 70) r2 c K) := by
  refine t_isNoCam h hn h14 ⟨m_is h, t_isThrown _ h rfl (fun hb => ?_) (fun hb => k1 (inRb_n hb))⟩
  obtain ⟨s, hs, e⟩ := inR_ex (inRb_f hb) (by omega)
  exact k0 s hs e
theorem g_D {K : Hp → Int32 → Prop} {n : Nat} {x c : Int32} (h : Rep A E ls nl nc nd S D) (hn : D.FI 546 70 = nI n) (h14 : n ≤ 16) (k0 : ∀ s, s < n → x = nI s → ∀ S' D', Rep A E ls nl nc nd S' D' → Thr 0 D D' → K S' 0) (k1 : ¬ inR x n → ∀ S' D', Rep A E ls nl nc nd S' D' → Thr c D D' → K S' 1) : wX8_isNoDrum S (A 70) x (fun S1 r2 => isA S1 (A 70) 8 ∧ wX8_isThrown S1 (A 70) r2 c K) := by
  refine t_isNoDrum h hn h14 ⟨m_is h, t_isThrown _ h rfl (fun hb => ?_) (fun hb => k1 (inRb_n hb))⟩
  obtain ⟨s, hs, e⟩ := inR_ex (inRb_f hb) (by omega)
  exact k0 s hs e
theorem g_0 {K : Hp → Int32 → Prop} {c : Int32} {D0 : Dt} {c0 : Int32} (h : Rep A E ls nl nc nd S D) (t0 : Thr c0 D0 D) (k : ∀ S' D', Rep A E ls nl nc nd S' D' → Thr 0 D0 D' → K S' 0) : isA S (A 70) 8 ∧ wX8_isThrown S (A 70) 0 c K :=
  ⟨m_is h, t_isThrown false h rfl (fun _ S2 D2 r2 t2 => k S2 D2 r2 (t0.tr t2)) (fun e => absurd e (by decide))⟩
theorem g_1 {K : Hp → Int32 → Prop} {c : Int32} {D0 : Dt} {c0 : Int32} (h : Rep A E ls nl nc nd S D) (t0 : Thr c0 D0 D) (k : ∀ S' D', Rep A E ls nl nc nd S' D' → Thr c D0 D' → K S' 1) : isA S (A 70) 8 ∧ wX8_isThrown S (A 70) 1 c K :=
  ⟨m_is h, t_isThrown true h rfl (fun e => absurd e (by decide)) (fun _ S2 D2 r2 t2 => k S2 D2 r2 (t0.tr t2))⟩
theorem p_isBrokenM {Φ : Hp → Int32 → Prop} {nlr : Nat} {x : Int32} {brk : Nat → Bool} (h : Rep A E ls nlr nc nd S D) (hnl : D.FI 544 70 = nI nl) (h14 : nl ≤ 14) (hb : ∀ k, k < nl → D.AI 88 k = bI (brk k)) (kt1 : ¬ inR x nl → ∀ S' D', Rep A E ls nlr nc nd S' D' → Thr 1 D D' → Φ S' 0) (kk : ∀ s, s < nl → x = nI s → ∀ S' D', Rep A E ls nlr nc nd S' D' → Thr 0 D D' → Φ S' (bI (brk s))) : wX8_isBroken S (A 70) x Φ := by
  unfold wX8_isBroken wX8_isBroken_b0
  refine ⟨m_is h, g_L h hnl (by omega) (fun s hs e S1 D1 r1 t1 => fi_p rfl ⟨m_is r1, ?_⟩) (fun q S1 D1 r1 t1 => fi_n (by decide) (kt1 q S1 D1 r1 t1))⟩
  subst e
  have a := m_arr r1 528 88 23 16
  have v : S1.AI (A 88) (nI s).toNatClampNeg = bI (brk s) := rd_I r1 (al_s (by decide)) (by omega) (by rw [t1.AI]; exact hb s hs)
  refine ⟨A 88, a.1, a.2.1, by rw [a.2.2]; exact in_nI (by omega) (by decide), ?_⟩
  rw [v]
  have kk1 := kk s hs rfl S1 D1 r1 t1
  cases e : brk s
  · rw [e] at kk1
    exact if_p rfl kk1
  · rw [e] at kk1
    exact if_n (by decide) kk1
theorem p_driverM {Φ : Hp → Int32 → Prop} {nlr ns : Nat} {x : Int32} (h : Rep A E ls nlr nc nd S D) (hG : GrOK ns nl G) (hns : D.FI 543 70 = nI ns) (hdr : DrA G nl ns 79 D) (kt1 : ¬ inR x ns → ∀ S' D', Rep A E ls nlr nc nd S' D' → Thr 1 D D' → Φ S' 0) (kt2 : ∀ s, s < ns → x = nI s → drv G nl s = none → ∀ S' D', Rep A E ls nlr nc nd S' D' → Thr 2 D D' → Φ S' 0) (kk : ∀ s k, s < ns → x = nI s → drv G nl s = some k → ∀ S' D', Rep A E ls nlr nc nd S' D' → Thr 0 D D' → Φ S' (nI k)) : wX8_driver S (A 70) x Φ := by
  have h14 := hG.1
  unfold wX8_driver wX8_driver_b0 wX8_driver_b36 wX8_driver_b29
  refine ⟨m_is h, g_S h hns h14 (fun s hs e S1 D1 r1 t1 => fi_p rfl ⟨m_is r1, ?_⟩) (fun q S1 D1 r1 t1 => fi_n (by decide) (kt1 q S1 D1 r1 t1))⟩
  subst e
  have a := m_arr r1 519 79 21 14
  have v : S1.AI (A 79) (nI s).toNatClampNeg = match drv G nl s with | none => -1 | some k => nI k := rd_I r1 (al_s (by decide)) (by omega) (by rw [t1.AI]; exact hdr s hs)
  refine ⟨A 79, a.1, a.2.1, by rw [a.2.2]; exact in_nI (by omega) (by decide), ?_⟩
  rw [v]
  cases e : drv G nl s with
  | none => exact fi_p rfl (g_1 r1 t1 (fun S2 D2 r2 t2 => if_n (by decide) (kt2 s hs rfl e S2 D2 r2 t2)))
  | some k =>
    have hk := (drv_some e).1
    refine fi_n (nI_nm (by have := hG.2.1; omega)) (g_0 r1 t1 (fun S2 D2 r2 t2 => if_p rfl ⟨m_is r2, ?_⟩))
    have a2 := m_arr r2 519 79 21 14
    have v2 : S2.AI (A 79) (nI s).toNatClampNeg = nI k := rd_I r2 (al_s (by decide)) (by omega) (by rw [t2.AI, hdr s hs, e])
    refine ⟨A 79, a2.1, a2.2.1, by rw [a2.2.2]; exact in_nI (by omega) (by decide), ?_⟩
    rw [v2]
    exact kk s k hs rfl e S2 D2 r2 t2
theorem p_freedomM {Φ : Hp → Int32 → Prop} {nlr ns : Nat} (h : Rep A E ls nlr nc nd S D) (hG : GrOK ns nl G) (hns : D.FI 543 70 = nI ns) (hdr : DrA G nl ns 79 D) (kk : ∀ S' D', Rep A E ls nlr nc nd S' D' → Thr 0 D D' → Φ S' (nI (cnt ns (fun s => !(drv G nl s).isSome)))) : wX8_freedom S (A 70) Φ := by
  have h14 := hG.1
  unfold wX8_freedom wX8_freedom_b0
  refine ⟨m_is h, fun S2 e2 => ?_⟩
  obtain ⟨D2, r2, u2, j2, o2, f2⟩ := t_setFI (r := 70) (i := 549) h m_al (by decide) e2
  have t2 : Thr 0 D D2 := ⟨⟨fun i r hr => o2 i r hr, fun r _ => by rw [u2], fun r _ => by rw [j2]⟩, f2⟩
  have v : S2.FI 543 (A 70) = nI ns := (rep_FI r2 543 (by decide) m_al).trans ((t2.FI (by decide)).trans hns)
  have a := m_arr r2 519 79 21 14
  refine it3_ex (fun j S1 b w => S1 = S2 ∧ w = nI j ∧ b = nI (cnt j (fun s => !(drv G nl s).isSome))) ns ?_ ?_ ⟨rfl, rfl, rfl⟩
  · rintro j hj S1 _ _ k9 ⟨rfl, rfl, rfl⟩ hk9
    unfold wX8_freedom_b9 wX8_freedom_b33
    rw [v]
    refine ⟨m_is r2, if_n (nI_ge hj (by omega)) ⟨A 79, a.1, a.2.1, by rw [a.2.2]; exact in_nI (by omega) (by decide), ?_⟩⟩
    have w : S1.AI (A 79) (nI j).toNatClampNeg = match drv G nl j with | none => -1 | some k => nI k := rd_I r2 (al_s (by decide)) (by omega) (by rw [t2.AI]; exact hdr j hj)
    rw [w]
    cases e : drv G nl j with
    | none =>
      refine fi_p rfl ?_
      rw [← nI_succ, ← nI_succ]
      refine hk9 _ _ _ ⟨rfl, rfl, ?_⟩
      show nI (cnt j _ + 1) = nI (cnt j _ + (if (!(drv G nl j).isSome) = true then 1 else 0))
      rw [e]
      rfl
    | some k =>
      have hk := (drv_some e).1
      refine fi_n (nI_nm (by have := hG.2.1; omega)) ?_
      rw [← nI_succ, Int32.add_zero]
      refine hk9 _ _ _ ⟨rfl, rfl, ?_⟩
      show nI (cnt j _) = nI (cnt j _ + (if (!(drv G nl j).isSome) = true then 1 else 0))
      rw [e]
      rfl
  · rintro S1 _ _ k9 ⟨rfl, rfl, rfl⟩
    unfold wX8_freedom_b9
    rw [v]
    exact ⟨m_is r2, if_p (nI_le (Nat.le_refl _) (by omega)) (kk _ D2 r2 t2)⟩
theorem p_placeOverM {Φ : Hp → Int64 → Prop} {nlr ns : Nat} {x : Int32} (h : Rep A E ls nlr nc nd S D) (h14 : ns ≤ 14) (hns : D.FI 543 70 = nI ns) (kt1 : ¬ inR x ns → ∀ S' D', Rep A E ls nlr nc nd S' D' → Thr 1 D D' → Φ S' 0) (kk : ∀ s, s < ns → x = nI s → ∀ S' D', Rep A E ls nlr nc nd S' D' → Thr 0 D D' → Φ S' (D.AJ 72 s)) : wX8_placeOver S (A 70) x Φ := by
  unfold wX8_placeOver wX8_placeOver_b0
  refine ⟨m_is h, g_S h hns h14 (fun s hs e S1 D1 r1 t1 => if_p rfl ⟨m_is r1, ?_⟩) (fun q S1 D1 r1 t1 => if_n (by decide) (kt1 q S1 D1 r1 t1))⟩
  subst e
  have a := m_arr r1 512 72 22 14
  have v : S1.AJ (A 72) (nI s).toNatClampNeg = D.AJ 72 s := rd_J r1 (al_s (by decide)) (by omega) (by rw [t1.AJ])
  refine ⟨A 72, a.1, a.2.1, by rw [a.2.2]; exact in_nI (by omega) (by decide), ?_⟩
  rw [v]
  exact kk s hs rfl S1 D1 r1 t1
theorem p_placeUnderM {Φ : Hp → Int64 → Prop} {nlr ns : Nat} {x : Int32} (h : Rep A E ls nlr nc nd S D) (h14 : ns ≤ 14) (hns : D.FI 543 70 = nI ns) (kt1 : ¬ inR x ns → ∀ S' D', Rep A E ls nlr nc nd S' D' → Thr 1 D D' → Φ S' 0) (kk : ∀ s, s < ns → x = nI s → ∀ S' D', Rep A E ls nlr nc nd S' D' → Thr 0 D D' → Φ S' (D.AJ 73 s)) : wX8_placeUnder S (A 70) x Φ := by
  unfold wX8_placeUnder wX8_placeUnder_b0
  refine ⟨m_is h, g_S h hns h14 (fun s hs e S1 D1 r1 t1 => if_p rfl ⟨m_is r1, ?_⟩) (fun q S1 D1 r1 t1 => if_n (by decide) (kt1 q S1 D1 r1 t1))⟩
  subst e
  have a := m_arr r1 513 73 22 14
  have v : S1.AJ (A 73) (nI s).toNatClampNeg = D.AJ 73 s := rd_J r1 (al_s (by decide)) (by omega) (by rw [t1.AJ])
  refine ⟨A 73, a.1, a.2.1, by rw [a.2.2]; exact in_nI (by omega) (by decide), ?_⟩
  rw [v]
  exact kk s hs rfl S1 D1 r1 t1
theorem p_wornOverM {Φ : Hp → Int64 → Prop} {nlr : Nat} {x : Int32} (h : Rep A E ls nlr nc nd S D) (hnl : D.FI 544 70 = nI nl) (h14 : nl ≤ 14) (kt1 : ¬ inR x nl → ∀ S' D', Rep A E ls nlr nc nd S' D' → Thr 1 D D' → Φ S' 0) (kk : ∀ s, s < nl → x = nI s → ∀ S' D', Rep A E ls nlr nc nd S' D' → Thr 0 D D' → Φ S' (D.AJ 91 s)) : wX8_wornOver S (A 70) x Φ := by
  unfold wX8_wornOver wX8_wornOver_b0
  refine ⟨m_is h, g_L h hnl (by omega) (fun s hs e S1 D1 r1 t1 => if_p rfl ⟨m_is r1, ?_⟩) (fun q S1 D1 r1 t1 => if_n (by decide) (kt1 q S1 D1 r1 t1))⟩
  subst e
  have a := m_arr r1 531 91 22 16
  have v : S1.AJ (A 91) (nI s).toNatClampNeg = D.AJ 91 s := rd_J r1 (al_s (by decide)) (by omega) (by rw [t1.AJ])
  refine ⟨A 91, a.1, a.2.1, by rw [a.2.2]; exact in_nI (by omega) (by decide), ?_⟩
  rw [v]
  exact kk s hs rfl S1 D1 r1 t1
theorem p_wornUnderM {Φ : Hp → Int64 → Prop} {nlr : Nat} {x : Int32} (h : Rep A E ls nlr nc nd S D) (hnl : D.FI 544 70 = nI nl) (h14 : nl ≤ 14) (kt1 : ¬ inR x nl → ∀ S' D', Rep A E ls nlr nc nd S' D' → Thr 1 D D' → Φ S' 0) (kk : ∀ s, s < nl → x = nI s → ∀ S' D', Rep A E ls nlr nc nd S' D' → Thr 0 D D' → Φ S' (D.AJ 92 s)) : wX8_wornUnder S (A 70) x Φ := by
  unfold wX8_wornUnder wX8_wornUnder_b0
  refine ⟨m_is h, g_L h hnl (by omega) (fun s hs e S1 D1 r1 t1 => if_p rfl ⟨m_is r1, ?_⟩) (fun q S1 D1 r1 t1 => if_n (by decide) (kt1 q S1 D1 r1 t1))⟩
  subst e
  have a := m_arr r1 532 92 22 16
  have v : S1.AJ (A 92) (nI s).toNatClampNeg = D.AJ 92 s := rd_J r1 (al_s (by decide)) (by omega) (by rw [t1.AJ])
  refine ⟨A 92, a.1, a.2.1, by rw [a.2.2]; exact in_nI (by omega) (by decide), ?_⟩
  rw [v]
  exact kk s hs rfl S1 D1 r1 t1
end GM9
