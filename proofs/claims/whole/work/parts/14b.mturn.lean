/-! THE REFERENCE: a turning -/
section MT9
variable {A E : Nat → Nat} {ls : Nat → List Nat} {nl nc nd : Nat} {S : Hp} {D : Dt} {G : Nat → Nat → Nat}
theorem t_mt1 {Φ : Hp → Int32 → Prop} {ns inp : Nat} {y : Int32} {P : Nat → Rat} (h : Rep A E ls nl nc nd S D) (hG : GrOK ns nl G) (hL : Lev nl G (dp G nl)) (hM : LkM G nl D) (hns : D.FI 543 70 = nI ns) (hdr : DrA G nl ns 79 D) (hi : inp < ns) (hP : MR D 72 ns P)
    (kk : ∀ S' D', Rep A E ls nl nc nd S' D' → SamG (fun _ _ => False) (fun r => r = 78 ∨ r = 80) (fun r => r = 76 ∨ r = 77) D D' → (∀ s, s < ns → D'.AI 80 s = nI (dp G nl s)) → (∀ s, s < ns → D'.AI 78 s = bI (!decide (s = inp) && bh G nl inp s)) → MR D' 76 ns P → ∃ n, it2 (wX8_turn_b140 (A 70) (nI inp) y Φ) n S' 0) : ∃ n, it2 (wX8_turn_b64 (A 70) (nI inp) y Φ) n S 0 := by
  have h14 := hG.1
  refine it2_ex (fun j S1 v => v = nI j ∧ ∃ D1, Rep A E ls nl nc nd S1 D1 ∧ SamG (fun _ _ => False) (fun r => r = 78 ∨ r = 80) (fun r => r = 76 ∨ r = 77) D D1 ∧ (∀ s, s < j → D1.AI 80 s = nI (dp G nl s)) ∧ (∀ s, s < j → D1.AI 78 s = bI (!decide (s = inp) && bh G nl inp s)) ∧ MR D1 76 j P) ns ?_ ?_ ⟨rfl, D, h, SamG.rf, fun s hs => absurd hs (Nat.not_lt_zero s), fun s hs => absurd hs (Nat.not_lt_zero s), fun s hs => absurd hs (Nat.not_lt_zero s)⟩
  · rintro j hj S1 _ k9 ⟨rfl, D1, h1, s1, d1, b1, r1⟩ hk9
    have vns : S1.FI 543 (A 70) = nI ns := by
      rw [rep_FI h1 543 (by decide) m_al, s1.1 543 70 (fun q => q)]
      exact hns
    have s14 : ∀ n, n = 14 → vp_in (nI j) n := fun n e => by
      rw [e]
      exact in_nI (by omega) (by decide)
    have cj : (nI j).toNatClampNeg = j := cl_nI (by omega)
    have a76 := m_arr h1 516 76 22 14
    have a72 := m_arr h1 512 72 22 14
    have hPj := hP j hj
    have v72 : S1.AJ (A 72) (nI j).toNatClampNeg = i6 (P j).num := rd_J h1 (al_s (by decide)) (by omega) (by rw [s1.2.2 72 (by decide)]; exact hPj.1)
    unfold wX8_turn_b64
    rw [vns]
    refine ⟨m_is h1, if_n (nI_ge hj (by omega)) ⟨A 76, a76.1, A 72, a72.1, a72.2.1, s14 _ a72.2.2, a76.2.1, s14 _ a76.2.2, fun S2 e2 => ?_⟩⟩
    rw [v72, cj] at e2
    have h2 := set_AJ h1 (r := 76) j (i6 (P j).num) (al_s (by decide))
    rw [← e2] at h2
    have a77 := m_arr h2 517 77 22 14
    have a73 := m_arr h2 513 73 22 14
    have v73 : S2.AJ (A 73) (nI j).toNatClampNeg = i6 (P j).den := rd_J h2 (al_s (by decide)) (by omega) (by
      rw [dtAJ_n (by omega), s1.2.2 73 (by decide)]
      exact hPj.2)
    refine ⟨A 77, a77.1, A 73, a73.1, a73.2.1, s14 _ a73.2.2, a77.2.1, s14 _ a77.2.2, fun S3 e3 => ?_⟩
    rw [v73, cj] at e3
    have h3 := set_AJ h2 (r := 77) j (i6 (P j).den) (al_s (by decide))
    rw [← e3] at h3
    have s3 : SamG (fun _ _ => False) (fun r => r = 78 ∨ r = 80) (fun r => r = 76 ∨ r = 77) D ((D1.setAJ 76 j (i6 (P j).num)).setAJ 77 j (i6 (P j).den)) := (s1.tr (samG_J (Or.inl rfl))).tr (samG_J (Or.inr rfl))
    have r3 : MR ((D1.setAJ 76 j (i6 (P j).num)).setAJ 77 j (i6 (P j).den)) 76 (j + 1) P := by
      intro i hi
      by_cases c : i = j
      · rw [c]
        exact ⟨by rw [dtAJ_n (by omega), dtAJ_s], dtAJ_s⟩
      · have := r1 i (by omega)
        exact ⟨by rw [dtAJ_n (by omega), dtAJ_n (by omega)]; exact this.1, by rw [dtAJ_n (by omega), dtAJ_n (by omega)]; exact this.2⟩
    have ai3 : ((D1.setAJ 76 j (i6 (P j).num)).setAJ 77 j (i6 (P j).den)).AI = D1.AI := rfl
    generalize (D1.setAJ 76 j (i6 (P j).num)).setAJ 77 j (i6 (P j).den) = D3 at *
    have a80 := m_arr h3 520 80 21 14
    have hM3 : LkM G nl D3 := lkM_cg hM (fun r q1 q2 => s3.2.1 r (by omega))
    have hd3 : DrA G nl ns 79 D3 := drA_cg hdr (s3.2.1 79 (by decide))
    have hl19 : dp G nl j ≤ 19 := by
      have := hL.2 j
      omega
    refine ⟨A 80, a80.1, p_depthOf hG hL.1 hM3 hd3 19 j S3 _ (by omega) h3 hj hl19 ⟨a80.2.1, s14 _ a80.2.2, fun S4 e4 => ?_⟩⟩
    have edp : dpF G nl 19 j = dp G nl j := dpF_step hL.1 19 20 j hl19 (by omega)
    rw [edp, cj] at e4
    have h4 := set_AI h3 (r := 80) j (nI (dp G nl j)) (al_s (by decide))
    rw [← e4] at h4
    have s4 : SamG (fun _ _ => False) (fun r => r = 78 ∨ r = 80) (fun r => r = 76 ∨ r = 77) D (D3.setAI 80 j (nI (dp G nl j))) := s3.tr (samG_I (Or.inr rfl))
    have hM4 : LkM G nl (D3.setAI 80 j (nI (dp G nl j))) := lkM_cg hM (fun r q1 q2 => s4.2.1 r (by omega))
    have hd4 : DrA G nl ns 79 (D3.setAI 80 j (nI (dp G nl j))) := drA_cg hdr (s4.2.1 79 (by decide))
    have a78 := m_arr h4 518 78 23 14
    have last : ∀ b : Bool, b = (!decide (j = inp) && bh G nl inp j) → wX8_turn_b131 (A 70) (nI inp) y Φ k9 S4 (nI j) (A 78) (nI j) (bI b) := fun b hb => by
      unfold wX8_turn_b131
      refine ⟨a78.2.1, s14 _ a78.2.2, nb_bI b, fun S5 e5 => ?_⟩
      rw [cj] at e5
      have h5 := set_AI h4 (r := 78) j (bI b) (al_s (by decide))
      rw [← e5] at h5
      rw [← nI_succ]
      refine hk9 _ _ ⟨rfl, _, h5, s4.tr (samG_I (Or.inl rfl)), fun s hs => ?_, fun s hs => ?_, r3⟩
      · rw [dtAI_n (by omega)]
        by_cases c : s = j
        · rw [c, dtAI_s]
        · rw [dtAI_n (fun q => c q.2), ai3]
          exact d1 s (by omega)
      · by_cases c : s = j
        · rw [c, dtAI_s, hb]
        · rw [dtAI_n (fun q => c q.2), dtAI_n (by omega), ai3]
          exact b1 s (by omega)
    refine ⟨m_is h4, A 78, a78.1, ?_⟩
    by_cases c : j = inp
    · subst c
      refine if_p rfl ?_
      unfold wX8_turn_b130
      exact last false (by simp)
    · refine if_n (fun q => c ((nI_iff (by omega) (by omega)).mp q)) (p_isBehind hG hL.1 hi hM4 hd4 19 j S4 _ h4 hj hl19 ?_)
      have ebh : bhF G nl inp 19 j = bh G nl inp j := bhF_step hL.1 19 20 j hl19 (by omega)
      rw [ebh]
      cases eb : bh G nl inp j
      · refine if_p rfl ?_
        unfold wX8_turn_b130
        exact last false (by rw [eb, Bool.and_false])
      · exact if_n (by decide) (last true (by rw [eb, Bool.and_true, decide_eq_false c]; rfl))
  · rintro S1 _ k9 ⟨rfl, D1, h1, s1, d1, b1, r1⟩
    have vns : S1.FI 543 (A 70) = nI ns := by
      rw [rep_FI h1 543 (by decide) m_al, s1.1 543 70 (fun q => q)]
      exact hns
    unfold wX8_turn_b64
    rw [vns]
    exact ⟨m_is h1, if_p (nI_le (Nat.le_refl _) (by omega)) (kk S1 D1 h1 s1 d1 b1 r1)⟩
/-- the worn links break -/
theorem t_mt3 {Φ : Hp → Int32 → Prop} {ns n : Nat} {x y : Int32} {W : Nat → Rat} {life : Nat → Nat} {brk : Nat → Bool} (h : Rep A E ls nl nc nd S D) (hG : GrOK ns nl G) (hL : Lev nl G (dp G nl)) (hnl : D.FI 544 70 = nI nl) (hlf : ∀ k, k < nl → D.AI 89 k = nI (life k) ∧ life k ≤ 999) (hbrk : ∀ k, k < nl → D.AI 88 k = bI (brk k)) (hW : MR D 91 nl W) (hB : BdW G nl n W) (hn : n ≤ 24600)
    (kk : ∀ S' D', Rep A E ls nl nc nd S' D' → SamG (fun _ _ => False) (fun r => r = 88) (fun _ => False) D D' → (∀ k, k < nl → D'.AI 88 k = bI (brk k || bw W life k)) → ∃ n, it3 (wX8_turn_b236 (A 70) x y Φ) n S' 0 0) : ∃ n, it2 (wX8_turn_b170 (A 70) x y Φ) n S 0 := by
  have hnl14 := hG.2.1
  refine it2_ex (fun j S1 v => v = nI j ∧ ∃ D1, Rep A E ls nl nc nd S1 D1 ∧ SamG (fun _ _ => False) (fun r => r = 88) (fun _ => False) D D1 ∧ (∀ k, k < nl → D1.AI 88 k = bI (brk k || (decide (k < j) && bw W life k)))) nl ?_ ?_ ⟨rfl, D, h, SamG.rf, fun k hk => by rw [hbrk k hk, decide_eq_false (Nat.not_lt_zero k), Bool.false_and, Bool.or_false]⟩
  · rintro j hj S1 _ k9 ⟨rfl, D1, h1, s1, b1⟩ hk9
    have vnl : S1.FI 544 (A 70) = nI nl := by
      rw [rep_FI h1 544 (by decide) m_al, s1.1 544 70 (fun q => q)]
      exact hnl
    have k16 : ∀ n, n = 16 → vp_in (nI j) n := fun n e => by
      rw [e]
      exact in_nI (by omega) (by decide)
    have cj : (nI j).toNatClampNeg = j := cl_nI (by omega)
    obtain ⟨l1, l2⟩ := hlf j hj
    have a88 := m_arr h1 528 88 23 16
    have a89 := m_arr h1 529 89 21 16
    have a91 := m_arr h1 531 91 22 16
    have a92 := m_arr h1 532 92 22 16
    have eW := hW j hj
    have v88 : S1.AI (A 88) (nI j).toNatClampNeg = bI (brk j) := rd_I h1 (al_s (by decide)) (by omega) (by rw [b1 j hj, decide_eq_false (Nat.lt_irrefl j), Bool.false_and, Bool.or_false])
    have v89 : S1.AI (A 89) (nI j).toNatClampNeg = nI (life j) := rd_I h1 (al_s (by decide)) (by omega) (by rw [s1.2.1 89 (by decide)]; exact l1)
    have v91 : S1.AJ (A 91) (nI j).toNatClampNeg = i6 (W j).num := rd_J h1 (al_s (by decide)) (by omega) (by rw [s1.2.2 91 (fun q => q)]; exact eW.1)
    have v92 : S1.AJ (A 92) (nI j).toNatClampNeg = i6 (W j).den := rd_J h1 (al_s (by decide)) (by omega) (by rw [s1.2.2 92 (fun q => q)]; exact eW.2)
    obtain ⟨w1, w2, w3⟩ := w_num hG hL hj
    have hWb := bd_bq w1 (hB j hj)
    have hnw : n * wbo G nl j ≤ 24600 * 100000000000 := Nat.mul_le_mul hn w3
    have rW := bq_rg hWb w1 (by omega) (by omega) 1 (by omega)
    have dl := den_le hWb w1
    have rl : Rg ((life j : Int) * ((W j).den : Int)) := by
      have h1 : life j * (W j).den ≤ 999 * 1200000000000 := Nat.mul_le_mul l2 (by omega)
      have h2 : ((life j : Int) * ((W j).den : Int)) = ((life j * (W j).den : Nat) : Int) := by rw [Int.natCast_mul]
      rw [h2]
      unfold Rg
      omega
    have last : ∀ (b : Bool) (z : Int32), b = bw W life j → z = bI b → wX8_turn_b223 (A 70) x y Φ k9 S1 (nI j) (A 88) (nI j) (bI (brk j)) z := fun b z hb hz => by
      have eo : bI (brk j) ||| z = bI (brk j || b) := by
        rw [hz]
        cases brk j <;> cases b <;> decide
      unfold wX8_turn_b223
      rw [eo]
      refine ⟨a88.2.1, k16 _ a88.2.2, nb_bI _, fun S2 e2 => ?_⟩
      rw [cj] at e2
      have h2 := set_AI h1 (r := 88) j (bI (brk j || b)) (al_s (by decide))
      rw [← e2] at h2
      rw [← nI_succ]
      refine hk9 _ _ ⟨rfl, _, h2, s1.tr (samG_I rfl), fun k hk => ?_⟩
      by_cases c : k = j
      · rw [c, dtAI_s, decide_eq_true (Nat.lt_succ_self j), Bool.true_and, hb]
      · rw [dtAI_n (fun q => c q.2), b1 k hk]
        by_cases c2 : k < j
        · rw [decide_eq_true c2, decide_eq_true (show k < j + 1 by omega)]
        · rw [decide_eq_false c2, decide_eq_false (show ¬ k < j + 1 by omega)]
    unfold wX8_turn_b170
    rw [vnl]
    refine ⟨m_is h1, if_n (nI_ge hj (by omega)) ⟨A 88, a88.1, a88.2.1, k16 _ a88.2.2, A 89, a89.1, a89.2.1, k16 _ a89.2.2, ?_⟩⟩
    rw [v88, v89]
    refine ⟨fun c => ?_, fun c => ⟨A 91, a91.1, a91.2.1, k16 _ a91.2.2, A 89, a89.1, a89.2.1, k16 _ a89.2.2, A 92, a92.1, a92.2.1, k16 _ a92.2.2, ?_⟩⟩
    · unfold wX8_turn_b222
      exact last false 0 (decide_eq_false (fun q => nI_nle q.1 (by omega) c)).symm rfl
    · have hl0 : 0 < life j := Nat.pos_of_ne_zero (fun e => c (by rw [e]; decide))
      rw [v91, v92, v89, nI64 (by omega), i6_mul, cmp_le rW.1 rl]
      refine ⟨fun c2 => ?_, fun c2 => ?_⟩
      · unfold wX8_turn_b222
        exact last false 0 (decide_eq_false (fun q => by omega)).symm rfl
      · exact last true 1 (decide_eq_true ⟨hl0, by omega⟩).symm rfl
  · rintro S1 _ k9 ⟨rfl, D1, h1, s1, b1⟩
    have vnl : S1.FI 544 (A 70) = nI nl := by
      rw [rep_FI h1 544 (by decide) m_al, s1.1 544 70 (fun q => q)]
      exact hnl
    unfold wX8_turn_b170
    rw [vnl]
    exact ⟨m_is h1, if_p (nI_le (Nat.le_refl _) (by omega)) (kk S1 D1 h1 s1 (fun k hk => by rw [b1 k hk, decide_eq_true hk, Bool.true_and]))⟩
end MT9
