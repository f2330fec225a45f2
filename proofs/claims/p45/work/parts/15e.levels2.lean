/-! THE CLASS: do the levels fit -/
section LF
variable {A E : Nat → Nat} {ls : Nat → List Nat} {nc nd : Nat} {S : Hp} {D : Dt} {G : Nat → Nat → Nat}
theorem p_fit_s {Φ : Hp → Int32 → Prop} {ns m : Nat} (h : Rep A E ls (m + 1) nc nd S D) (hC : LkC G (m + 1) D) (hG : GrOK ns (m + 1) G) (hls : ls 0 = (List.range m).map (fun k => A (400 + k))) (hns : D.FI 461 0 = nI ns)
    (k1 : ∀ S' D', Rep A E ls (m + 1) nc nd S' D' → SamG (fun _ _ => False) (fun r => r = 6) (fun _ => False) D D' → (∀ s, s < 14 → D'.AI 6 s = nI (pss G (m + 1) 4 s)) → (∀ s, s < ns → pss G (m + 1) 4 s ≤ 3) → Φ S' 1)
    (k0 : ∀ S' D', Rep A E ls (m + 1) nc nd S' D' → SamG (fun _ _ => False) (fun r => r = 6) (fun _ => False) D D' → ¬ (∀ s, s < ns → pss G (m + 1) 4 s ≤ 3) → Φ S' 0) : wX7_areLevelsFit_s S (A 0) (A (400 + m)) Φ := by
  have h14 := hG.1
  have hnl14 := hG.2.1
  have hlen : (ls 0).length = m := by rw [hls, List.length_map, List.length_range]
  have bnd : ∀ p s, p ≤ 4 → pss G (m + 1) p s ≤ 56 := fun p s hp => by
    have h1 := pss_le (G := G) (nl := (m + 1)) p s
    have h2 : p * (m + 1) ≤ 4 * 14 := Nat.mul_le_mul hp hnl14
    omega
  unfold wX7_areLevelsFit_s wX7_areLevelsFit_s_b0
  refine ⟨c_is h, A 6, rep_fr h (453, 0, 6) (by decide), p_fillI h (r := 6) (n := 14) (al_s (by decide)) (by decide) (by decide) (by decide) (fun S1 h1 => ?_)⟩
  have s1 : SamG (fun _ _ => False) (fun r => r = 6) (fun _ => False) D (D.fillI 6 14 0) := ⟨fun _ _ _ => rfl, fun r hr => funext fun i => if_neg (fun q => hr q.1), fun _ _ => rfl⟩
  have v1 : ∀ s, s < 14 → (D.fillI 6 14 0).AI 6 s = nI (pss G (m + 1) 0 s) := fun s hs => if_pos ⟨rfl, hs⟩
  generalize D.fillI 6 14 0 = D1 at *
  refine it2_ex (fun p S2 v => v = nI p ∧ ∃ D2, Rep A E ls (m + 1) nc nd S2 D2 ∧ SamG (fun _ _ => False) (fun r => r = 6) (fun _ => False) D D2 ∧ ∀ s, s < 14 → D2.AI 6 s = nI (pss G (m + 1) p s)) 4 ?_ ?_ ⟨rfl, D1, h1, s1, v1⟩
  · rintro p hp S2 _ k9 ⟨rfl, D2, h2, s2, v2⟩ hk9
    unfold wX7_areLevelsFit_s_b10
    refine if_n (nI_nlt (a := 3) (b := p) (by omega) (by decide)) ?_
    refine it3_ex (fun j S3 a v => a = nI p ∧ v = nI j ∧ ∃ D3, Rep A E ls (m + 1) nc nd S3 D3 ∧ SamG (fun _ _ => False) (fun r => r = 6) (fun _ => False) D D3 ∧ ∀ s, s < 14 → D3.AI 6 s = nI (pas G j (pss G (m + 1) p) s)) m ?_ ?_ ⟨rfl, rfl, D2, h2, s2, v2⟩
    · rintro j hj S3 _ _ k8 ⟨rfl, rfl, D3, h3, s3, v3⟩ hk8
      have hC3 := lkC_cg hC (D' := D3) (fun i r _ _ => s3.1 i r (fun q => q))
      have lk := lkS_of h3 hC3 (show j < (m + 1) by omega) (by omega)
      unfold wX7_areLevelsFit_s_b17
      refine ⟨c_is h3, A (1 + 0), rep_fr h3 (448, 0, 1) (by decide), ls_is h3 (by decide), p_size h3 (j := 0) (by decide) (if_n ?_ ⟨c_is h3, A (1 + 0), rep_fr h3 (448, 0, 1) (by decide), ls_is h3 (by decide), p_get (x := A (400 + j)) h3 (j := 0) (by decide) (lnk_get hls hj) ⟨A (400 + j), rfl, lk.1, c_is h3, p_raise (L := pas G j (pss G (m + 1) p)) h3 hC3 hG (by omega) v3 (fun s => ?_) (fun S4 D4 h4 s4 v4 => ?_)⟩⟩)⟩
      · rw [hlen]
        exact nI_ge hj (by omega)
      · have := pas_le (G := G) (bnd p · (by omega)) j s
        omega
      · rw [← nI_succ]
        exact hk8 _ _ _ ⟨rfl, rfl, D4, h4, s3.tr s4, v4⟩
    · rintro S3 _ _ k8 ⟨rfl, rfl, D3, h3, s3, v3⟩
      have hC3 := lkC_cg hC (D' := D3) (fun i r _ _ => s3.1 i r (fun q => q))
      unfold wX7_areLevelsFit_s_b17
      refine ⟨c_is h3, A (1 + 0), rep_fr h3 (448, 0, 1) (by decide), ls_is h3 (by decide), p_size h3 (j := 0) (by decide) (if_p ?_ ?_)⟩
      · rw [hlen]
        exact nI_le (Nat.le_refl _) (by omega)
      · refine ⟨c_is h3, p_raise (L := pas G m (pss G (m + 1) p)) h3 hC3 hG (by omega) v3 (fun s => ?_) (fun S4 D4 h4 s4 v4 => ?_)⟩
        · have := pas_le (G := G) (bnd p · (by omega)) m s
          omega
        · unfold wX7_areLevelsFit_s_b58
          rw [← nI_succ]
          exact hk9 _ _ ⟨rfl, D4, h4, s3.tr s4, v4⟩
  · rintro S2 _ k9 ⟨rfl, D2, h2, s2, v2⟩
    have vns : S2.FI 461 (A 0) = nI ns := by
      rw [rep_FI h2 461 (by decide) c_al, s2.1 461 0 (fun q => q)]
      exact hns
    have a6 : isA S2 (A 6) 21 := rep_is h2 (al_s (by decide)) (by decide)
    have n6 : S2.N (A 6) = 14 := rep_N h2 (al_s (by decide)) (by decide)
    unfold wX7_areLevelsFit_s_b10
    refine if_p (nI_lt (a := 3) (b := 4) (by decide) (by decide)) ?_
    by_cases ok : ∀ s, s < ns → pss G (m + 1) 4 s ≤ 3
    · refine it2_ex (fun j S3 v => S3 = S2 ∧ v = nI j) ns ?_ ?_ ⟨rfl, rfl⟩
      · rintro j hj S3 _ k8 ⟨rfl, rfl⟩ hk8
        have vj : S3.AI (A 6) (nI j).toNatClampNeg = nI (pss G (m + 1) 4 j) := rd_I h2 (al_s (by decide)) (by omega) (v2 j (by omega))
        unfold wX7_areLevelsFit_s_b66
        rw [vns]
        refine ⟨c_is h2, if_n (nI_ge hj (by omega)) ⟨A 6, rep_fr h2 (453, 0, 6) (by decide), a6, by rw [n6]; exact in_nI (by omega) (by decide), ?_⟩⟩
        rw [vj]
        refine if_p (nI_le (b := 3) (ok j hj) (by decide)) ?_
        rw [← nI_succ]
        exact hk8 _ _ ⟨rfl, rfl⟩
      · rintro S3 _ k8 ⟨rfl, rfl⟩
        unfold wX7_areLevelsFit_s_b66
        rw [vns]
        exact ⟨c_is h2, if_p (nI_le (Nat.le_refl _) (by omega)) (k1 S3 D2 h2 s2 v2 ok)⟩
    · -- the first shaft that is too deep
      have fst : ∃ j, j < ns ∧ ¬ pss G (m + 1) 4 j ≤ 3 ∧ ∀ i, i < j → pss G (m + 1) 4 i ≤ 3 := by
        have gen : ∀ n, (∀ s, s < n → pss G (m + 1) 4 s ≤ 3) ∨ ∃ j, j < n ∧ ¬ pss G (m + 1) 4 j ≤ 3 ∧ ∀ i, i < j → pss G (m + 1) 4 i ≤ 3 := by
          intro n
          induction n with
          | zero => exact Or.inl (fun s hs => absurd hs (Nat.not_lt_zero s))
          | succ n ih =>
            rcases ih with ih | ⟨j, a, b, c⟩
            · by_cases cn : pss G (m + 1) 4 n ≤ 3
              · refine Or.inl (fun s hs => ?_)
                by_cases e : s = n
                · rw [e]
                  exact cn
                · exact ih s (by omega)
              · exact Or.inr ⟨n, by omega, cn, ih⟩
            · exact Or.inr ⟨j, by omega, b, c⟩
        rcases gen ns with q | q
        · exact absurd q ok
        · exact q
      obtain ⟨jj, q1, q2, q3⟩ := fst
      refine it2_ex (fun j S3 v => S3 = S2 ∧ v = nI j) jj ?_ ?_ ⟨rfl, rfl⟩
      · rintro j hj S3 _ k8 ⟨rfl, rfl⟩ hk8
        have vj : S3.AI (A 6) (nI j).toNatClampNeg = nI (pss G (m + 1) 4 j) := rd_I h2 (al_s (by decide)) (by omega) (v2 j (by omega))
        unfold wX7_areLevelsFit_s_b66
        rw [vns]
        refine ⟨c_is h2, if_n (nI_ge (show j < ns by omega) (by omega)) ⟨A 6, rep_fr h2 (453, 0, 6) (by decide), a6, by rw [n6]; exact in_nI (by omega) (by decide), ?_⟩⟩
        rw [vj]
        refine if_p (nI_le (b := 3) (q3 j hj) (by decide)) ?_
        rw [← nI_succ]
        exact hk8 _ _ ⟨rfl, rfl⟩
      · rintro S3 _ k8 ⟨rfl, rfl⟩
        have vj : S3.AI (A 6) (nI jj).toNatClampNeg = nI (pss G (m + 1) 4 jj) := rd_I h2 (al_s (by decide)) (by omega) (v2 jj (by omega))
        unfold wX7_areLevelsFit_s_b66
        rw [vns]
        refine ⟨c_is h2, if_n (nI_ge q1 (by omega)) ⟨A 6, rep_fr h2 (453, 0, 6) (by decide), a6, by rw [n6]; exact in_nI (by omega) (by decide), ?_⟩⟩
        rw [vj]
        exact if_n (nI_ge (a := 3) (by omega) (by have := bnd 4 jj (by omega); omega)) (k0 S3 D2 h2 s2 ok)
theorem p_fit_n {Φ : Hp → Int32 → Prop} {ns m : Nat} (h : Rep A E ls m nc nd S D) (hC : LkC G m D) (hG : GrOK ns m G) (hls : ls 0 = (List.range m).map (fun k => A (400 + k))) (hns : D.FI 461 0 = nI ns)
    (k1 : ∀ S' D', Rep A E ls m nc nd S' D' → SamG (fun _ _ => False) (fun r => r = 6) (fun _ => False) D D' → (∀ s, s < 14 → D'.AI 6 s = nI (pss G m 4 s)) → (∀ s, s < ns → pss G m 4 s ≤ 3) → Φ S' 1)
    (k0 : ∀ S' D', Rep A E ls m nc nd S' D' → SamG (fun _ _ => False) (fun r => r = 6) (fun _ => False) D D' → ¬ (∀ s, s < ns → pss G m 4 s ≤ 3) → Φ S' 0) : wX7_areLevelsFit_n S (A 0) Φ := by
  have h14 := hG.1
  have hnl14 := hG.2.1
  have hlen : (ls 0).length = m := by rw [hls, List.length_map, List.length_range]
  have bnd : ∀ p s, p ≤ 4 → pss G m p s ≤ 56 := fun p s hp => by
    have h1 := pss_le (G := G) (nl := m) p s
    have h2 : p * m ≤ 4 * 14 := Nat.mul_le_mul hp hnl14
    omega
  unfold wX7_areLevelsFit_n wX7_areLevelsFit_n_b0
  refine ⟨c_is h, A 6, rep_fr h (453, 0, 6) (by decide), p_fillI h (r := 6) (n := 14) (al_s (by decide)) (by decide) (by decide) (by decide) (fun S1 h1 => ?_)⟩
  have s1 : SamG (fun _ _ => False) (fun r => r = 6) (fun _ => False) D (D.fillI 6 14 0) := ⟨fun _ _ _ => rfl, fun r hr => funext fun i => if_neg (fun q => hr q.1), fun _ _ => rfl⟩
  have v1 : ∀ s, s < 14 → (D.fillI 6 14 0).AI 6 s = nI (pss G m 0 s) := fun s hs => if_pos ⟨rfl, hs⟩
  generalize D.fillI 6 14 0 = D1 at *
  refine it2_ex (fun p S2 v => v = nI p ∧ ∃ D2, Rep A E ls m nc nd S2 D2 ∧ SamG (fun _ _ => False) (fun r => r = 6) (fun _ => False) D D2 ∧ ∀ s, s < 14 → D2.AI 6 s = nI (pss G m p s)) 4 ?_ ?_ ⟨rfl, D1, h1, s1, v1⟩
  · rintro p hp S2 _ k9 ⟨rfl, D2, h2, s2, v2⟩ hk9
    unfold wX7_areLevelsFit_n_b10
    refine if_n (nI_nlt (a := 3) (b := p) (by omega) (by decide)) ?_
    refine it3_ex (fun j S3 a v => a = nI p ∧ v = nI j ∧ ∃ D3, Rep A E ls m nc nd S3 D3 ∧ SamG (fun _ _ => False) (fun r => r = 6) (fun _ => False) D D3 ∧ ∀ s, s < 14 → D3.AI 6 s = nI (pas G j (pss G m p) s)) m ?_ ?_ ⟨rfl, rfl, D2, h2, s2, v2⟩
    · rintro j hj S3 _ _ k8 ⟨rfl, rfl, D3, h3, s3, v3⟩ hk8
      have hC3 := lkC_cg hC (D' := D3) (fun i r _ _ => s3.1 i r (fun q => q))
      have lk := lkS_of h3 hC3 (show j < m by omega) (by omega)
      unfold wX7_areLevelsFit_n_b17
      refine ⟨c_is h3, A (1 + 0), rep_fr h3 (448, 0, 1) (by decide), ls_is h3 (by decide), p_size h3 (j := 0) (by decide) (if_n ?_ ⟨c_is h3, A (1 + 0), rep_fr h3 (448, 0, 1) (by decide), ls_is h3 (by decide), p_get (x := A (400 + j)) h3 (j := 0) (by decide) (lnk_get hls hj) ⟨A (400 + j), rfl, lk.1, c_is h3, p_raise (L := pas G j (pss G m p)) h3 hC3 hG (by omega) v3 (fun s => ?_) (fun S4 D4 h4 s4 v4 => ?_)⟩⟩)⟩
      · rw [hlen]
        exact nI_ge hj (by omega)
      · have := pas_le (G := G) (bnd p · (by omega)) j s
        omega
      · rw [← nI_succ]
        exact hk8 _ _ _ ⟨rfl, rfl, D4, h4, s3.tr s4, v4⟩
    · rintro S3 _ _ k8 ⟨rfl, rfl, D3, h3, s3, v3⟩
      have hC3 := lkC_cg hC (D' := D3) (fun i r _ _ => s3.1 i r (fun q => q))
      unfold wX7_areLevelsFit_n_b17
      refine ⟨c_is h3, A (1 + 0), rep_fr h3 (448, 0, 1) (by decide), ls_is h3 (by decide), p_size h3 (j := 0) (by decide) (if_p ?_ ?_)⟩
      · rw [hlen]
        exact nI_le (Nat.le_refl _) (by omega)
      · unfold wX7_areLevelsFit_n_b58
        rw [← nI_succ]
        exact hk9 _ _ ⟨rfl, D3, h3, s3, v3⟩
  · rintro S2 _ k9 ⟨rfl, D2, h2, s2, v2⟩
    have vns : S2.FI 461 (A 0) = nI ns := by
      rw [rep_FI h2 461 (by decide) c_al, s2.1 461 0 (fun q => q)]
      exact hns
    have a6 : isA S2 (A 6) 21 := rep_is h2 (al_s (by decide)) (by decide)
    have n6 : S2.N (A 6) = 14 := rep_N h2 (al_s (by decide)) (by decide)
    unfold wX7_areLevelsFit_n_b10
    refine if_p (nI_lt (a := 3) (b := 4) (by decide) (by decide)) ?_
    by_cases ok : ∀ s, s < ns → pss G m 4 s ≤ 3
    · refine it2_ex (fun j S3 v => S3 = S2 ∧ v = nI j) ns ?_ ?_ ⟨rfl, rfl⟩
      · rintro j hj S3 _ k8 ⟨rfl, rfl⟩ hk8
        have vj : S3.AI (A 6) (nI j).toNatClampNeg = nI (pss G m 4 j) := rd_I h2 (al_s (by decide)) (by omega) (v2 j (by omega))
        unfold wX7_areLevelsFit_n_b66
        rw [vns]
        refine ⟨c_is h2, if_n (nI_ge hj (by omega)) ⟨A 6, rep_fr h2 (453, 0, 6) (by decide), a6, by rw [n6]; exact in_nI (by omega) (by decide), ?_⟩⟩
        rw [vj]
        refine if_p (nI_le (b := 3) (ok j hj) (by decide)) ?_
        rw [← nI_succ]
        exact hk8 _ _ ⟨rfl, rfl⟩
      · rintro S3 _ k8 ⟨rfl, rfl⟩
        unfold wX7_areLevelsFit_n_b66
        rw [vns]
        exact ⟨c_is h2, if_p (nI_le (Nat.le_refl _) (by omega)) (k1 S3 D2 h2 s2 v2 ok)⟩
    · -- the first shaft that is too deep
      have fst : ∃ j, j < ns ∧ ¬ pss G m 4 j ≤ 3 ∧ ∀ i, i < j → pss G m 4 i ≤ 3 := by
        have gen : ∀ n, (∀ s, s < n → pss G m 4 s ≤ 3) ∨ ∃ j, j < n ∧ ¬ pss G m 4 j ≤ 3 ∧ ∀ i, i < j → pss G m 4 i ≤ 3 := by
          intro n
          induction n with
          | zero => exact Or.inl (fun s hs => absurd hs (Nat.not_lt_zero s))
          | succ n ih =>
            rcases ih with ih | ⟨j, a, b, c⟩
            · by_cases cn : pss G m 4 n ≤ 3
              · refine Or.inl (fun s hs => ?_)
                by_cases e : s = n
                · rw [e]
                  exact cn
                · exact ih s (by omega)
              · exact Or.inr ⟨n, by omega, cn, ih⟩
            · exact Or.inr ⟨j, by omega, b, c⟩
        rcases gen ns with q | q
        · exact absurd q ok
        · exact q
      obtain ⟨jj, q1, q2, q3⟩ := fst
      refine it2_ex (fun j S3 v => S3 = S2 ∧ v = nI j) jj ?_ ?_ ⟨rfl, rfl⟩
      · rintro j hj S3 _ k8 ⟨rfl, rfl⟩ hk8
        have vj : S3.AI (A 6) (nI j).toNatClampNeg = nI (pss G m 4 j) := rd_I h2 (al_s (by decide)) (by omega) (v2 j (by omega))
        unfold wX7_areLevelsFit_n_b66
        rw [vns]
        refine ⟨c_is h2, if_n (nI_ge (show j < ns by omega) (by omega)) ⟨A 6, rep_fr h2 (453, 0, 6) (by decide), a6, by rw [n6]; exact in_nI (by omega) (by decide), ?_⟩⟩
        rw [vj]
        refine if_p (nI_le (b := 3) (q3 j hj) (by decide)) ?_
        rw [← nI_succ]
        exact hk8 _ _ ⟨rfl, rfl⟩
      · rintro S3 _ k8 ⟨rfl, rfl⟩
        have vj : S3.AI (A 6) (nI jj).toNatClampNeg = nI (pss G m 4 jj) := rd_I h2 (al_s (by decide)) (by omega) (v2 jj (by omega))
        unfold wX7_areLevelsFit_n_b66
        rw [vns]
        refine ⟨c_is h2, if_n (nI_ge q1 (by omega)) ⟨A 6, rep_fr h2 (453, 0, 6) (by decide), a6, by rw [n6]; exact in_nI (by omega) (by decide), ?_⟩⟩
        rw [vj]
        exact if_n (nI_ge (a := 3) (by omega) (by have := bnd 4 jj (by omega); omega)) (k0 S3 D2 h2 s2 ok)
end LF
