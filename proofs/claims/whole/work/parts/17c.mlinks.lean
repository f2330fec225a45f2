/-! THE REFERENCE: life, slack -/
section EM9
variable {A E : Nat → Nat} {ls : Nat → List Nat} {nl nc nd : Nat} {S : Hp} {D : Dt} {G : Nat → Nat → Nat}
theorem p_lifeM {Φ : Hp → Int32 → Prop} {nlr : Nat} {x y : Int32} (h : Rep A E ls nlr nc nd S D) (hnl : D.FI 544 70 = nI nl) (h14 : nl ≤ 14) (kt1 : ¬ inR x nl → ∀ S' D', Rep A E ls nlr nc nd S' D' → Thr 1 D D' → Φ S' 0) (kt2 : inR x nl → ¬ (0 ≤ y.toInt ∧ y.toInt ≤ 999) → ∀ S' D', Rep A E ls nlr nc nd S' D' → Thr 2 D D' → Φ S' 0)
    (kk : ∀ s, s < nl → x = nI s → (0 ≤ y.toInt ∧ y.toInt ≤ 999) → ∀ S' D', Rep A E ls nlr nc nd S' D' → SamG (fun i r => i = 549 ∧ r = 70) (fun r => r = 89) (fun _ => False) D D' → D'.FI 549 70 = 0 → (∀ k, D'.AI 89 k = if k = s then y else D.AI 89 k) → Φ S' (D.AI 89 s)) : wX8_life S (A 70) x y Φ := by
  unfold wX8_life wX8_life_b0
  refine ⟨m_is h, t_isNoLink h hnl (by omega) ⟨m_is h, t_isThrown _ h rfl (fun hb S1 D1 r1 t1 => fi_p rfl ?_) (fun hb S1 D1 r1 t1 => fi_n (by decide) (kt1 (fun q => by rw [inRb_t.mpr q] at hb; exact absurd hb (by decide)) S1 D1 r1 t1))⟩⟩
  have hin : inR x nl := inRb_t.mp (by cases e : inRb x nl; rw [e] at hb; exact absurd hb (by decide); rfl)
  obtain ⟨s, hs, rfl⟩ := inR_ex hin (by omega)
  refine t_isIn ?_
  by_cases c : (0 : Int32).toInt ≤ y.toInt ∧ y.toInt ≤ (999 : Int32).toInt
  · rw [decide_eq_true c]
    refine fi_n (by decide) ?_
    unfold wX8_life_b30
    refine ⟨m_is r1, t_isThrown false r1 rfl (fun _ S2 D2 r2 t2 => if_p rfl ⟨m_is r2, ?_⟩) (fun e => absurd e (by decide))⟩
    have t12 := t1.tr t2
    have a := m_arr r2 529 89 21 16
    have k16 : ∀ n, n = 16 → vp_in (nI s) n := fun n e => by
      rw [e]
      exact in_nI (by omega) (by decide)
    have v : S2.AI (A 89) (nI s).toNatClampNeg = D.AI 89 s := rd_I r2 (al_s (by decide)) (by omega) (by rw [t12.AI])
    refine ⟨A 89, a.1, a.2.1, k16 _ a.2.2, A 89, a.1, a.2.1, k16 _ a.2.2, fun S3 e3 => ?_⟩
    rw [cl_nI (by omega)] at e3
    obtain ⟨D3, r3, u3, j3, o3, i3⟩ := t_setAI (r := 89) r2 (al_s (by decide)) e3
    rw [v]
    refine kk s hs rfl c S3 D3 r3 ⟨fun i r hr => ?_, fun r hr => ?_, fun r _ => ?_⟩ ?_ (fun k => ?_)
    · rw [u3]
      exact t12.1.1 i r hr
    · rw [o3 r hr, t12.AI]
    · rw [j3, t12.AJ]
    · rw [u3]
      exact t12.2
    · rw [i3 k, t12.AI]
  · rw [decide_eq_false c]
    refine fi_p rfl ?_
    unfold wX8_life_b30
    exact ⟨m_is r1, t_isThrown true r1 rfl (fun e => absurd e (by decide)) (fun _ S2 D2 r2 t2 => if_n (by decide) (kt2 hin c S2 D2 r2 (t1.tr t2)))⟩
theorem p_slackM {Φ : Hp → Int32 → Prop} {nlr : Nat} {x y : Int32} (h : Rep A E ls nlr nc nd S D) (hnl : D.FI 544 70 = nI nl) (h14 : nl ≤ 14) (kt1 : ¬ inR x nl → ∀ S' D', Rep A E ls nlr nc nd S' D' → Thr 1 D D' → Φ S' 0) (kt2 : inR x nl → ¬ (0 ≤ y.toInt ∧ y.toInt ≤ 99) → ∀ S' D', Rep A E ls nlr nc nd S' D' → Thr 2 D D' → Φ S' 0)
    (kk : ∀ s, s < nl → x = nI s → (0 ≤ y.toInt ∧ y.toInt ≤ 99) → ∀ S' D', Rep A E ls nlr nc nd S' D' → SamG (fun i r => i = 549 ∧ r = 70) (fun r => r = 90) (fun _ => False) D D' → D'.FI 549 70 = 0 → (∀ k, D'.AI 90 k = if k = s then y else D.AI 90 k) → Φ S' (D.AI 90 s)) : wX8_slack S (A 70) x y Φ := by
  unfold wX8_slack wX8_slack_b0
  refine ⟨m_is h, t_isNoLink h hnl (by omega) ⟨m_is h, t_isThrown _ h rfl (fun hb S1 D1 r1 t1 => fi_p rfl ?_) (fun hb S1 D1 r1 t1 => fi_n (by decide) (kt1 (fun q => by rw [inRb_t.mpr q] at hb; exact absurd hb (by decide)) S1 D1 r1 t1))⟩⟩
  have hin : inR x nl := inRb_t.mp (by cases e : inRb x nl; rw [e] at hb; exact absurd hb (by decide); rfl)
  obtain ⟨s, hs, rfl⟩ := inR_ex hin (by omega)
  refine t_isIn ?_
  by_cases c : (0 : Int32).toInt ≤ y.toInt ∧ y.toInt ≤ (99 : Int32).toInt
  · rw [decide_eq_true c]
    refine fi_n (by decide) ?_
    unfold wX8_slack_b29
    refine ⟨m_is r1, t_isThrown false r1 rfl (fun _ S2 D2 r2 t2 => if_p rfl ⟨m_is r2, ?_⟩) (fun e => absurd e (by decide))⟩
    have t12 := t1.tr t2
    have a := m_arr r2 530 90 21 16
    have k16 : ∀ n, n = 16 → vp_in (nI s) n := fun n e => by
      rw [e]
      exact in_nI (by omega) (by decide)
    have v : S2.AI (A 90) (nI s).toNatClampNeg = D.AI 90 s := rd_I r2 (al_s (by decide)) (by omega) (by rw [t12.AI])
    refine ⟨A 90, a.1, a.2.1, k16 _ a.2.2, A 90, a.1, a.2.1, k16 _ a.2.2, fun S3 e3 => ?_⟩
    rw [cl_nI (by omega)] at e3
    obtain ⟨D3, r3, u3, j3, o3, i3⟩ := t_setAI (r := 90) r2 (al_s (by decide)) e3
    rw [v]
    refine kk s hs rfl c S3 D3 r3 ⟨fun i r hr => ?_, fun r hr => ?_, fun r _ => ?_⟩ ?_ (fun k => ?_)
    · rw [u3]
      exact t12.1.1 i r hr
    · rw [o3 r hr, t12.AI]
    · rw [j3, t12.AJ]
    · rw [u3]
      exact t12.2
    · rw [i3 k, t12.AI]
  · rw [decide_eq_false c]
    refine fi_p rfl ?_
    unfold wX8_slack_b29
    exact ⟨m_is r1, t_isThrown true r1 rfl (fun e => absurd e (by decide)) (fun _ S2 D2 r2 t2 => if_n (by decide) (kt2 hin c S2 D2 r2 (t1.tr t2)))⟩
end EM9
