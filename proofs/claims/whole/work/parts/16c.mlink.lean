/-! THE REFERENCE: link, planets -/
theorem t_setAJ {A E : Nat → Nat} {ls : Nat → List Nat} {nl nc nd : Nat} {S S' : Hp} {D : Dt} {r i : Nat} {v : Int64} (h : Rep A E ls nl nc nd S D) (ha : al nl nc nd r) (e : S' = S.setAJ (A r) i v) : ∃ D', Rep A E ls nl nc nd S' D' ∧ D'.FI = D.FI ∧ D'.AI = D.AI ∧ (∀ r', r' ≠ r → D'.AJ r' = D.AJ r') ∧ ∀ k, D'.AJ r k = if k = i then v else D.AJ r k := by
  refine ⟨D.setAJ r i v, by rw [e]; exact set_AJ h i v ha, rfl, rfl, fun r' hr => funext fun k => dtAJ_n (fun q => hr q.1), fun k => ?_⟩
  by_cases c : k = i
  · rw [if_pos c, c, dtAJ_s]
  · rw [if_neg c, dtAJ_n (fun q => c q.2)]
section MM9
variable {A E : Nat → Nat} {ls : Nat → List Nat} {nl nc nd : Nat} {S : Hp} {D : Dt} {G : Nat → Nat → Nat} {g : Nat → Nat}
theorem p_made {Φ : Hp → Int32 → Prop} {ns nlr M B : Nat} {P : Nat → Rat} (h : Rep A E ls nlr nc nd S D) (hnl : nl < 16) (hns : ns ≤ 14) (hM : LkM G (nl + 1) D) (hf : G nl 1 < ns) (ha : G nl 4 ≤ 30) (hn : D.FI 544 70 = nI (nl + 1)) (hP : MR D 72 ns P) (b : Bq M B (P (G nl 1))) (hM0 : 0 < M) (hM1 : M ≤ 67184640000000) (hB : B ≤ 100000000000000000)
    (kk : ∀ S' D', Rep A E ls nlr nc nd S' D' → SamG (fun _ _ => False) (fun r => 87 ≤ r ∧ r < 91) (fun r => 91 ≤ r ∧ r < 94) D D' → (∀ k, D'.AI 87 k = if k = nl then 0 else D.AI 87 k) → (∀ k, D'.AI 88 k = if k = nl then 0 else D.AI 88 k) → (∀ k, D'.AI 89 k = if k = nl then 0 else D.AI 89 k) → (∀ k, D'.AI 90 k = if k = nl then 0 else D.AI 90 k) → (∀ k, D'.AJ 91 k = if k = nl then 0 else D.AJ 91 k) → (∀ k, D'.AJ 92 k = if k = nl then 1 else D.AJ 92 k) → (∀ k, D'.AJ 93 k = if k = nl then i6 (fl (G nl 4 : Nat) (P (G nl 1))) else D.AJ 93 k) → Φ S' (nI nl)) : wX8_made S (A 70) Φ := by
  have v544 : S.FI 544 (A 70) - 1 = nI nl := by
    rw [rep_FI h 544 (by decide) m_al, hn, nI_pred]
  have k16 : ∀ n, n = 16 → vp_in (nI nl) n := fun n e => by
    rw [e]
    exact in_nI (by omega) (by decide)
  have cnl : (nI nl).toNatClampNeg = nl := cl_nI (by omega)
  unfold wX8_made wX8_made_b0
  rw [v544, cnl]
  have a87 := m_arr h 527 87 23 16
  refine ⟨m_is h, A 87, a87.1, a87.2.1, k16 _ a87.2.2, fun S5 e5 => ?_⟩
  obtain ⟨D5, r5, u5, j5, o5, i5⟩ := t_setAI (r := 87) h (al_s (by decide)) e5
  have a88 := m_arr r5 528 88 23 16
  refine ⟨A 88, a88.1, a88.2.1, k16 _ a88.2.2, fun S9 e9 => ?_⟩
  obtain ⟨D9, r9, u9, j9, o9, i9⟩ := t_setAI (r := 88) r5 (al_s (by decide)) e9
  have a89 := m_arr r9 529 89 21 16
  refine ⟨A 89, a89.1, a89.2.1, k16 _ a89.2.2, fun S13 e13 => ?_⟩
  obtain ⟨D13, r13, u13, j13, o13, i13⟩ := t_setAI (r := 89) r9 (al_s (by decide)) e13
  have a90 := m_arr r13 530 90 21 16
  refine ⟨A 90, a90.1, a90.2.1, k16 _ a90.2.2, fun S17 e17 => ?_⟩
  obtain ⟨D17, r17, u17, j17, o17, i17⟩ := t_setAI (r := 90) r13 (al_s (by decide)) e17
  have a91 := m_arr r17 531 91 22 16
  refine ⟨A 91, a91.1, a91.2.1, k16 _ a91.2.2, fun S21 e21 => ?_⟩
  obtain ⟨D21, r21, u21, j21, o21, i21⟩ := t_setAJ (r := 91) r17 (al_s (by decide)) e21
  have a92 := m_arr r21 532 92 22 16
  refine ⟨A 92, a92.1, a92.2.1, k16 _ a92.2.2, fun S25 e25 => ?_⟩
  obtain ⟨D25, r25, u25, j25, o25, i25⟩ := t_setAJ (r := 92) r21 (al_s (by decide)) e25
  have cAI : ∀ r, r < 87 → D25.AI r = D.AI r := fun r hr => by
    rw [j25, j21, o17 r (by omega), o13 r (by omega), o9 r (by omega), o5 r (by omega)]
  have cAJ : ∀ r, r < 91 → D25.AJ r = D.AJ r := fun r hr => by
    rw [o25 r (by omega), o21 r (by omega), j17, j13, j9, j5]
  obtain ⟨g1, g2, g3, g4, g5, g6⟩ := hM nl (by omega)
  have ePf := hP (G nl 1) hf
  have a93 := m_arr r25 533 93 22 16
  have a85 := m_arr r25 525 85 21 16
  have a82 := m_arr r25 522 82 21 16
  have a72 := m_arr r25 512 72 22 14
  have a73 := m_arr r25 513 73 22 14
  have v85 : S25.AI (A 85) nl = nI (G nl 4) := (rep_AI r25 nl (al_s (by decide))).trans (by rw [cAI 85 (by decide)]; exact g5)
  have v82 : S25.AI (A 82) nl = nI (G nl 1) := (rep_AI r25 nl (al_s (by decide))).trans (by rw [cAI 82 (by decide)]; exact g2)
  have v72 : S25.AJ (A 72) (nI (G nl 1)).toNatClampNeg = i6 (P (G nl 1)).num := rd_J r25 (al_s (by decide)) (by omega) (by rw [cAJ 72 (by decide)]; exact ePf.1)
  have v73 : S25.AJ (A 73) (nI (G nl 1)).toNatClampNeg = i6 (P (G nl 1)).den := rd_J r25 (al_s (by decide)) (by omega) (by rw [cAJ 73 (by decide)]; exact ePf.2)
  refine ⟨A 93, a93.1, A 85, a85.1, a85.2.1, k16 _ a85.2.2, A 72, a72.1, A 82, a82.1, a82.2.1, k16 _ a82.2.2, a72.2.1, ?_, A 73, a73.1, A 82, a82.1, a82.2.1, k16 _ a82.2.2, a73.2.1, ?_, ?_⟩
  · rw [v82, a72.2.2]
    exact in_nI (by omega) (by decide)
  · rw [v82, a73.2.2]
    exact in_nI (by omega) (by decide)
  rw [v85, v82, v72, v73, nI64 (by omega)]
  have bb := bq_rg b hM0 hM1 hB (G nl 4) (by omega)
  refine p_floor (t := ((G nl 4 : Nat) : Int)) (by rw [Int.mul_comm]; exact bb.2.2.2) bb.2.1 ⟨a93.2.1, k16 _ a93.2.2, fun S46 e46 => ?_⟩
  obtain ⟨D46, r46, u46, j46, o46, i46⟩ := t_setAJ (r := 93) r25 (al_s (by decide)) e46
  refine kk S46 D46 r46 ⟨fun i r _ => ?_, fun r hr => ?_, fun r hr => ?_⟩ (fun k => ?_) (fun k => ?_) (fun k => ?_) (fun k => ?_) (fun k => ?_) (fun k => ?_) (fun k => ?_)
  · rw [u46, u25, u21, u17, u13, u9, u5]
  · rw [j46, j25, j21, o17 r (by omega), o13 r (by omega), o9 r (by omega), o5 r (by omega)]
  · rw [o46 r (by omega), o25 r (by omega), o21 r (by omega), j17, j13, j9, j5]
  · rw [j46, j25, j21, o17 87 (by decide), o13 87 (by decide), o9 87 (by decide)]
    exact i5 k
  · rw [j46, j25, j21, o17 88 (by decide), o13 88 (by decide), i9 k, o5 88 (by decide)]
  · rw [j46, j25, j21, o17 89 (by decide), i13 k, o9 89 (by decide), o5 89 (by decide)]
  · rw [j46, j25, j21, i17 k, o13 90 (by decide), o9 90 (by decide), o5 90 (by decide)]
  · rw [o46 91 (by decide), o25 91 (by decide), i21 k, j17, j13, j9, j5]
  · rw [o46 92 (by decide), i25 k, o21 92 (by decide), j17, j13, j9, j5]
  · rw [i46 k, o25 93 (by decide), o21 93 (by decide), j17, j13, j9, j5]
end MM9
