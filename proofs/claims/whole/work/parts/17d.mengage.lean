/-! THE REFERENCE: engage -/
section EG9
variable {A E : Nat → Nat} {ls : Nat → List Nat} {nl nc nd : Nat} {S : Hp} {D : Dt} {G : Nat → Nat → Nat}
theorem p_engageM {Φ : Hp → Int32 → Prop} {nlr : Nat} {x : Int32} {v : Bool} {eng : Nat → Bool} (h : Rep A E ls nlr nc nd S D) (hM : LkM G nl D) (hg : ∀ k, k < nl → G k 0 < 200) (hnl : D.FI 544 70 = nI nl) (h14 : nl ≤ 14) (he : ∀ k, k < nl → D.AI 87 k = bI (!eng k)) (kt1 : ¬ inR x nl → ∀ S' D', Rep A E ls nlr nc nd S' D' → Thr 1 D D' → Φ S' 0) (kt2 : ∀ s, s < nl → x = nI s → G s 0 ≠ 107 → ∀ S' D', Rep A E ls nlr nc nd S' D' → Thr 2 D D' → Φ S' 0)
    (kk : ∀ s, s < nl → x = nI s → G s 0 = 107 → ∀ S' D', Rep A E ls nlr nc nd S' D' → SamG (fun i r => i = 549 ∧ r = 70) (fun r => r = 87) (fun _ => False) D D' → D'.FI 549 70 = 0 → (∀ k, D'.AI 87 k = if k = s then bI (!v) else D.AI 87 k) → Φ S' (bI (eng s))) : wX8_engage S (A 70) x (bI v) Φ := by
  unfold wX8_engage wX8_engage_b0
  refine ⟨m_is h, t_isNoLink h hnl (by omega) ⟨m_is h, t_isThrown _ h rfl (fun hb S1 D1 r1 t1 => fi_p rfl ⟨m_is r1, ?_⟩) (fun hb S1 D1 r1 t1 => fi_n (by decide) (kt1 (fun q => by rw [inRb_t.mpr q] at hb; exact absurd hb (by decide)) S1 D1 r1 t1))⟩⟩
  have hin : inR x nl := inRb_t.mp (by cases e : inRb x nl; rw [e] at hb; exact absurd hb (by decide); rfl)
  obtain ⟨s, hs, rfl⟩ := inR_ex hin (by omega)
  have k16 : ∀ n, n = 16 → vp_in (nI s) n := fun n e => by
    rw [e]
    exact in_nI (by omega) (by decide)
  have a81 := m_arr r1 521 81 20 16
  have v81 : S1.AI (A 81) (nI s).toNatClampNeg = nI (G s 0) := rd_I r1 (al_s (by decide)) (by omega) (by rw [t1.AI]; exact (hM s hs).1)
  refine ⟨A 81, a81.1, a81.2.1, k16 _ a81.2.2, ?_⟩
  rw [v81]
  by_cases c : G s 0 = 107
  · refine if_p (by rw [c]; rfl) ?_
    unfold wX8_engage_b30
    refine ⟨m_is r1, t_isThrown false r1 rfl (fun _ S2 D2 r2 t2 => if_p rfl ⟨m_is r2, ?_⟩) (fun e => absurd e (by decide))⟩
    have t12 := t1.tr t2
    have a := m_arr r2 527 87 23 16
    have v87 : S2.AI (A 87) (nI s).toNatClampNeg = bI (!eng s) := rd_I r2 (al_s (by decide)) (by omega) (by rw [t12.AI]; exact he s hs)
    have last : ∀ (w : Bool) (z : Int32), z = bI (!v) → w = eng s → wX8_engage_b68 (A 70) (nI s) (bI v) Φ S2 (bI w) (A 87) (nI s) z := fun w z hz hw => by
      unfold wX8_engage_b68
      rw [hz, hw]
      refine ⟨a.2.1, k16 _ a.2.2, nb_bI _, fun S3 e3 => ⟨narrow_bI _, ?_⟩⟩
      rw [cl_nI (by omega)] at e3
      obtain ⟨D3, r3, u3, j3, o3, i3⟩ := t_setAI (r := 87) r2 (al_s (by decide)) e3
      refine kk s hs rfl c S3 D3 r3 ⟨fun i r hr => ?_, fun r hr => ?_, fun r _ => ?_⟩ ?_ (fun k => ?_)
      · rw [u3]
        exact t12.1.1 i r hr
      · rw [o3 r hr, t12.AI]
      · rw [j3, t12.AJ]
      · rw [u3]
        exact t12.2
      · rw [i3 k, t12.AI]
    have b53 : ∀ w : Bool, w = eng s → wX8_engage_b53 (A 70) (nI s) (bI v) Φ S2 (bI w) := fun w hw => by
      unfold wX8_engage_b53
      refine ⟨m_is r2, A 87, a.1, ?_⟩
      cases ev : v
      · exact fi_p rfl (by rw [← ev]; exact last w 1 (by rw [ev]; rfl) hw)
      · exact fi_n (by decide) (by rw [← ev]; exact last w 0 (by rw [ev]; rfl) hw)
    refine ⟨A 87, a.1, a.2.1, k16 _ a.2.2, ?_⟩
    rw [v87]
    cases ee : eng s
    · exact fi_n (by decide) (b53 false ee.symm)
    · exact fi_p rfl (b53 true ee.symm)
  · have := hg s hs
    refine if_n (fun q => c ((nI_iff (b := 107) (by omega) (by decide)).mp q)) ?_
    unfold wX8_engage_b30
    exact ⟨m_is r1, t_isThrown true r1 rfl (fun e => absurd e (by decide)) (fun _ S2 D2 r2 t2 => if_n (by decide) (kt2 s hs rfl c S2 D2 r2 (t1.tr t2)))⟩
end EG9
