/-! THE REFERENCE: repair -/
section RM9
variable {A E : Nat → Nat} {ls : Nat → List Nat} {nl nc nd : Nat} {S : Hp} {D : Dt} {G : Nat → Nat → Nat}
theorem p_repairM {Φ : Hp → Int32 → Prop} {ns nlr n : Nat} {x : Int32} {brk : Nat → Bool} {P W : Nat → Rat} (h : Rep A E ls nlr nc nd S D) (hM : LkM G nl D) (hG : GrOK ns nl G) (hnl : D.FI 544 70 = nI nl) (hb : ∀ k, k < nl → D.AI 88 k = bI (brk k)) (hP : MR D 72 ns P) (hB : BdP G nl n P) (hn : n ≤ 24600) (hW : MR D 91 nl W)
    (kt1 : ¬ inR x nl → ∀ S' D', Rep A E ls nlr nc nd S' D' → Thr 1 D D' → Φ S' 0) (kt2 : ∀ s, s < nl → x = nI s → brk s = false → ∀ S' D', Rep A E ls nlr nc nd S' D' → Thr 2 D D' → Φ S' 0)
    (kk : ∀ s, s < nl → x = nI s → brk s = true → ∀ S' D', Rep A E ls nlr nc nd S' D' → SamG (fun i r => i = 549 ∧ r = 70) (fun r => r = 88) (fun r => 91 ≤ r ∧ r < 94) D D' → D'.FI 549 70 = 0 → (∀ k, k < nl → D'.AI 88 k = bI (if k = s then false else brk k)) → MR D' 91 nl (vup W s 0) → (∀ k, D'.AJ 93 k = if k = s then i6 (fl (G s 4 : Nat) (P (G s 1))) else D.AJ 93 k) → Φ S' (nI (cnt nl (fun k => if k = s then false else brk k)))) : wX8_repair S (A 70) x Φ := by
  have h14 := hG.2.1
  unfold wX8_repair wX8_repair_b0
  refine ⟨m_is h, g_L h hnl (by omega) (fun s hs e S1 D1 r1 t1 => fi_p rfl ⟨m_is r1, ?_⟩) (fun q S1 D1 r1 t1 => fi_n (by decide) (kt1 q S1 D1 r1 t1))⟩
  subst e
  have k16 : ∀ n, n = 16 → vp_in (nI s) n := fun n e => by
    rw [e]
    exact in_nI (by omega) (by decide)
  have a := m_arr r1 528 88 23 16
  have v : S1.AI (A 88) (nI s).toNatClampNeg = bI (brk s) := rd_I r1 (al_s (by decide)) (by omega) (by rw [t1.AI]; exact hb s hs)
  refine ⟨A 88, a.1, a.2.1, k16 _ a.2.2, ?_⟩
  rw [v]
  unfold wX8_repair_b28
  by_cases c : brk s = true
  · rw [c]
    refine fi_n (by decide) (g_0 r1 t1 (fun S2 D2 r2 t2 => if_p rfl ⟨m_is r2, ?_⟩))
    have cs : (nI s).toNatClampNeg = s := cl_nI (by omega)
    rw [cs]
    have a88 := m_arr r2 528 88 23 16
    refine ⟨A 88, a88.1, a88.2.1, k16 _ a88.2.2, fun S9 e9 => ?_⟩
    obtain ⟨D9, r9, u9, j9, o9, i9⟩ := t_setAI (r := 88) r2 (al_s (by decide)) e9
    have a91 := m_arr r9 531 91 22 16
    refine ⟨A 91, a91.1, a91.2.1, k16 _ a91.2.2, fun S21 e21 => ?_⟩
    obtain ⟨D21, r21, u21, j21, o21, i21⟩ := t_setAJ (r := 91) r9 (al_s (by decide)) e21
    have a92 := m_arr r21 532 92 22 16
    refine ⟨A 92, a92.1, a92.2.1, k16 _ a92.2.2, fun S25 e25 => ?_⟩
    obtain ⟨D25, r25, u25, j25, o25, i25⟩ := t_setAJ (r := 92) r21 (al_s (by decide)) e25
    have cAI : ∀ r, r ≠ 88 → D25.AI r = D.AI r := fun r hr => by
      rw [j25, j21, o9 r hr, t2.AI]
    have cAJ : ∀ r, r < 91 → D25.AJ r = D.AJ r := fun r hr => by
      rw [o25 r (by omega), o21 r (by omega), j9, t2.AJ]
    obtain ⟨g1, g2, g3, g4, g5, g6⟩ := hM s hs
    have kk0 := hG.2.2.1 s hs
    have hG1 := hG.1
    have hf : G s 1 < ns := kk0.2.1
    have ePf := hP (G s 1) hf
    have a93 := m_arr r25 533 93 22 16
    have a85 := m_arr r25 525 85 21 16
    have a82 := m_arr r25 522 82 21 16
    have a72 := m_arr r25 512 72 22 14
    have a73 := m_arr r25 513 73 22 14
    have v85 : S25.AI (A 85) s = nI (G s 4) := (rep_AI r25 s (al_s (by decide))).trans (by rw [cAI 85 (by decide)]; exact g5)
    have v82 : S25.AI (A 82) s = nI (G s 1) := (rep_AI r25 s (al_s (by decide))).trans (by rw [cAI 82 (by decide)]; exact g2)
    have v72 : S25.AJ (A 72) (nI (G s 1)).toNatClampNeg = i6 (P (G s 1)).num := rd_J r25 (al_s (by decide)) (by omega) (by rw [cAJ 72 (by decide)]; exact ePf.1)
    have v73 : S25.AJ (A 73) (nI (G s 1)).toNatClampNeg = i6 (P (G s 1)).den := rd_J r25 (al_s (by decide)) (by omega) (by rw [cAJ 73 (by decide)]; exact ePf.2)
    refine ⟨A 93, a93.1, A 85, a85.1, a85.2.1, k16 _ a85.2.2, A 72, a72.1, A 82, a82.1, a82.2.1, k16 _ a82.2.2, a72.2.1, ?_, A 73, a73.1, A 82, a82.1, a82.2.1, k16 _ a82.2.2, a73.2.1, ?_, ?_⟩
    · rw [v82, a72.2.2]
      exact in_nI (by omega) (by decide)
    · rw [v82, a73.2.2]
      exact in_nI (by omega) (by decide)
    have g430 := (kOK_lt kk0.1).2.1
    rw [v85, v82, v72, v73, nI64 (by omega)]
    obtain ⟨M1, M2, M3⟩ := pm_lt hG (G s 1)
    have q1 := qn_le M3 hn
    have bb := bq_rg (bd_bq M1 (hB (G s 1))) M1 M2 (by omega) (G s 4) (by omega)
    refine p_floor (t := ((G s 4 : Nat) : Int)) (by rw [Int.mul_comm]; exact bb.2.2.2) bb.2.1 ⟨a93.2.1, k16 _ a93.2.2, fun S46 e46 => ?_⟩
    obtain ⟨D46, r46, u46, j46, o46, i46⟩ := t_setAJ (r := 93) r25 (al_s (by decide)) e46
    have f88 : ∀ k, k < nl → D46.AI 88 k = bI (if k = s then false else brk k) := fun k hk => by
      rw [j46, j25, j21, i9 k, t2.AI]
      by_cases ck : k = s
      · rw [if_pos ck, if_pos ck]; rfl
      · rw [if_neg ck, if_neg ck, hb k hk]
    have fFI : ∀ i r, ¬ (i = 549 ∧ r = 70) → D46.FI i r = D.FI i r := fun i r hr => by
      rw [u46, u25, u21, u9]
      exact t2.1.1 i r hr
    have v544 : S46.FI 544 (A 70) = nI nl := (rep_FI r46 544 (by decide) m_al).trans ((fFI 544 70 (by decide)).trans hnl)
    have b88 := m_arr r46 528 88 23 16
    refine it3_ex (fun j T b w => T = S46 ∧ w = nI j ∧ b = nI (cnt j (fun k => if k = s then false else brk k))) nl ?_ ?_ ⟨rfl, rfl, rfl⟩
    · rintro j hj T _ _ k9 ⟨rfl, rfl, rfl⟩ hk9
      unfold wX8_repair_b100 wX8_repair_b123
      rw [v544]
      refine ⟨m_is r46, if_n (nI_ge hj (by omega)) ⟨A 88, b88.1, b88.2.1, by rw [b88.2.2]; exact in_nI (by omega) (by decide), ?_⟩⟩
      have w : T.AI (A 88) (nI j).toNatClampNeg = bI (if j = s then false else brk j) := rd_I r46 (al_s (by decide)) (by omega) (f88 j hj)
      rw [w]
      cases e : (if j = s then false else brk j) with
      | false =>
        refine if_p rfl ?_
        rw [← nI_succ, Int32.add_zero]
        refine hk9 _ _ _ ⟨rfl, rfl, ?_⟩
        rw [cnt_s]
        rw [e, if_neg (by decide), Nat.add_zero]
      | true =>
        refine if_n (by decide) ?_
        rw [← nI_succ, ← nI_succ]
        refine hk9 _ _ _ ⟨rfl, rfl, ?_⟩
        rw [cnt_s]
        rw [e, if_pos rfl]
    · rintro T _ _ k9 ⟨rfl, rfl, rfl⟩
      unfold wX8_repair_b100
      rw [v544]
      refine ⟨m_is r46, if_p (nI_le (Nat.le_refl _) (by omega)) (kk s hs rfl c _ D46 r46 ⟨fFI, fun r hr => ?_, fun r hr => ?_⟩ ?_ f88 (fun i hi => ?_) (fun k => ?_))⟩
      · rw [j46]
        exact cAI r hr
      · rw [o46 r (by omega), o25 r (by omega), o21 r (by omega), j9, t2.AJ]
      · rw [u46, u25, u21, u9]
        exact t2.2
      · have w := hW i hi
        refine ⟨?_, ?_⟩
        · rw [o46 91 (by decide), o25 91 (by decide), i21 i, j9, t2.AJ]
          unfold vup
          by_cases ci : i = s
          · rw [if_pos ci, if_pos ci]; rfl
          · rw [if_neg ci, if_neg ci]
            exact w.1
        · show D46.AJ 92 i = _
          rw [o46 92 (by decide), i25 i, o21 92 (by decide), j9, t2.AJ]
          unfold vup
          by_cases ci : i = s
          · rw [if_pos ci, if_pos ci]; rfl
          · rw [if_neg ci, if_neg ci]
            exact w.2
      · rw [i46 k, o25 93 (by decide), o21 93 (by decide), j9, t2.AJ]
  · have c0 : brk s = false := by cases q : brk s; rfl; exact absurd q c
    rw [c0]
    exact fi_p rfl (g_1 r1 t1 (fun S2 D2 r2 t2 => if_n (by decide) (kt2 s hs rfl c0 S2 D2 r2 t2)))
end RM9
