/-! SHAFT, on both sides -/
section SH9
variable {A E : Nat → Nat} {ls : Nat → List Nat} {nl nc nd : Nat} {S : Hp} {D : Dt} {G : Nat → Nat → Nat}
theorem p_shaftC {Φ : Hp → Int32 → Prop} {Ψ : Hp → String → Prop} {ns : Nat} (h : Rep A E ls nl nc nd S D) (hns : D.FI 461 0 = nI ns) (h14 : ns ≤ 14) (kt : ¬ ns < 14 → Ψ S "java/lang/IllegalStateException")
    (kk : ns < 14 → ∀ S' D', Rep A E ls nl nc nd S' D' → SamG (fun i r => i = 461 ∧ r = 0) (fun _ => False) (fun _ => False) D D' → D'.FI 461 0 = nI (ns + 1) → Φ S' (nI ns)) : wX7_shaft S (A 0) Φ Ψ := by
  have v : S.FI 461 (A 0) = nI ns := by
    rw [rep_FI h 461 (by decide) c_al]
    exact hns
  unfold wX7_shaft wX7_shaft_b0
  rw [v]
  refine ⟨c_is h, ?_⟩
  by_cases c : ns < 14
  · refine if_p (nI_lt (b := 14) c (by decide)) (fun S3 e3 => ?_)
    rw [← nI_succ] at e3
    obtain ⟨D3, r3, u3, j3, o3, f3⟩ := t_setFI (r := 0) (i := 461) h c_al (by decide) e3
    have v3 : S3.FI 461 (A 0) = nI (ns + 1) := by
      rw [rep_FI r3 461 (by decide) c_al]
      exact f3
    rw [v3, nI_pred]
    exact kk c S3 D3 r3 ⟨fun i r hr => o3 i r hr, fun r _ => by rw [u3], fun r _ => by rw [j3]⟩ f3
  · exact if_n (nI_nlt (a := ns) (b := 14) (by omega) (by omega)) (kt c)
theorem p_shaftM {Φ : Hp → Int32 → Prop} {ns : Nat} (h : Rep A E ls nl nc nd S D) (hns : D.FI 543 70 = nI ns) (h14 : ns ≤ 14) (kt : ¬ ns < 14 → ∀ S' D', Rep A E ls nl nc nd S' D' → Thr 1 D D' → Φ S' 0)
    (kk : ns < 14 → ∀ S' D', Rep A E ls nl nc nd S' D' → SamG (fun i r => (i = 543 ∨ i = 549) ∧ r = 70) (fun r => r = 79) (fun r => r = 72 ∨ r = 73) D D' → D'.FI 549 70 = 0 → D'.FI 543 70 = nI (ns + 1) → (∀ k, D'.AI 79 k = if k = ns then -1 else D.AI 79 k) → (∀ k, D'.AJ 72 k = if k = ns then 0 else D.AJ 72 k) → (∀ k, D'.AJ 73 k = if k = ns then 1 else D.AJ 73 k) → Φ S' (nI ns)) : wX8_shaft S (A 70) Φ := by
  have v : S.FI 543 (A 70) = nI ns := by
    rw [rep_FI h 543 (by decide) m_al]
    exact hns
  unfold wX8_shaft wX8_shaft_b0
  rw [v]
  refine ⟨m_is h, ?_⟩
  by_cases c : ns < 14
  · refine fi_n (fun q => absurd ((nI_iff (b := 14) (by omega) (by decide)).mp q) (by omega)) ?_
    unfold wX8_shaft_b15
    refine ⟨m_is h, t_isThrown false h rfl (fun _ S1 D1 r1 t1 => if_p rfl ⟨m_is r1, ?_⟩) (fun e => absurd e (by decide))⟩
    have s14 : ∀ n, n = 14 → vp_in (nI ns) n := fun n e => by
      rw [e]
      exact in_nI c (by decide)
    have cns : (nI ns).toNatClampNeg = ns := cl_nI (by omega)
    have g1 : D1.FI 543 70 = nI ns := (t1.FI (by decide)).trans hns
    have v1 : S1.FI 543 (A 70) = nI ns := (rep_FI r1 543 (by decide) m_al).trans g1
    have a72 := m_arr r1 512 72 22 14
    rw [v1]
    refine ⟨A 72, a72.1, a72.2.1, s14 _ a72.2.2, fun S9 e9 => ?_⟩
    rw [cns] at e9
    obtain ⟨D9, r9, u9, j9, o9, i9⟩ := t_setAJ (r := 72) r1 (al_s (by decide)) e9
    have g9 : D9.FI 543 70 = nI ns := by rw [u9]; exact g1
    have v9 : S9.FI 543 (A 70) = nI ns := (rep_FI r9 543 (by decide) m_al).trans g9
    have a73 := m_arr r9 513 73 22 14
    rw [v9]
    refine ⟨A 73, a73.1, a73.2.1, s14 _ a73.2.2, fun S13 e13 => ?_⟩
    rw [cns] at e13
    obtain ⟨D13, r13, u13, j13, o13, i13⟩ := t_setAJ (r := 73) r9 (al_s (by decide)) e13
    have g13 : D13.FI 543 70 = nI ns := by rw [u13]; exact g9
    have v13 : S13.FI 543 (A 70) = nI ns := (rep_FI r13 543 (by decide) m_al).trans g13
    have a79 := m_arr r13 519 79 21 14
    rw [v13]
    refine ⟨A 79, a79.1, a79.2.1, s14 _ a79.2.2, fun S17 e17 => ?_⟩
    rw [cns] at e17
    obtain ⟨D17, r17, u17, j17, o17, i17⟩ := t_setAI (r := 79) r13 (al_s (by decide)) e17
    have g17 : D17.FI 543 70 = nI ns := by rw [u17]; exact g13
    have v17 : S17.FI 543 (A 70) = nI ns := (rep_FI r17 543 (by decide) m_al).trans g17
    intro S18 e18
    rw [v17, ← nI_succ] at e18
    obtain ⟨D18, r18, u18, j18, o18, f18⟩ := t_setFI (r := 70) (i := 543) r17 m_al (by decide) e18
    have v18 : S18.FI 543 (A 70) = nI (ns + 1) := (rep_FI r18 543 (by decide) m_al).trans f18
    rw [v18, nI_pred]
    refine kk c S18 D18 r18 ⟨fun i r hr => ?_, fun r hr => ?_, fun r hr => ?_⟩ ?_ f18 (fun k => ?_) (fun k => ?_) (fun k => ?_)
    · rw [o18 i r (fun q => hr ⟨Or.inl q.1, q.2⟩), u17, u13, u9]
      exact t1.1.1 i r (fun q => hr ⟨Or.inr q.1, q.2⟩)
    · rw [u18, o17 r hr, j13, j9, t1.AI]
    · rw [j18, j17, o13 r (by omega), o9 r (by omega), t1.AJ]
    · rw [o18 549 70 (by decide), u17, u13, u9]
      exact t1.2
    · rw [u18, i17 k, j13, j9, t1.AI]
    · rw [j18, j17, o13 72 (by decide), i9 k, t1.AJ]
    · rw [j18, j17, i13 k, o9 73 (by decide), t1.AJ]
  · have e : ns = 14 := by omega
    refine fi_p (by rw [e]; rfl) ?_
    unfold wX8_shaft_b15
    exact ⟨m_is h, t_isThrown true h rfl (fun e => absurd e (by decide)) (fun _ S1 D1 r1 t1 => if_n (by decide) (kt c S1 D1 r1 t1))⟩
end SH9
