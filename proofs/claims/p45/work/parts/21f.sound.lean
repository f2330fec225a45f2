/-! IS IT SOUND -/
def ChOK (G : Nat → Nat → Nat) (nl : Nat) (act : Nat → Bool) (inp : Nat) (wy : Int) (N : Nat) (Ps tns : Nat → Nat → Rat) (mks : Nat → Nat → Int) : Prop := Sq G nl act inp wy N Ps tns mks ∧ ∀ i, i ≤ N → RI G nl act (Ps i) (mks i) ∧ (∃ n, n ≤ 24560 ∧ BdP G nl n (Ps i)) ∧ ∀ k, k < nl → act k = true → Rg (mks i k)
def Last (G : Nat → Nat → Nat) (ns nl : Nat) (P : Nat → Rat) (act : Nat → Bool) (D : Dt) : Prop := D.FI 462 0 = -1 ∨ ∃ inp y Ps tns mks, D.FI 462 0 = nI inp ∧ inp < ns ∧ D.FI 463 0 = y ∧ y.toInt.natAbs ≤ 48 ∧ ChOK G nl act inp (wayOf y) y.toInt.natAbs Ps tns mks ∧ RowV D 5 14 (Ps 0) ∧ (∀ k, k < nl → D.AJ 61 k = i6 (mks 0 k)) ∧ Ps y.toInt.natAbs = P
theorem way_le (y : Int32) : (wayOf y).natAbs ≤ 1 := by
  unfold wayOf
  by_cases c : y.toInt < 0
  · rw [if_pos c]
    decide
  · rw [if_neg c]
    decide
theorem dvd_bd {M B : Nat} {q : Rat} (h : Bd M B q) : (q.den : Int) ∣ q.num * (M : Int) := by
  obtain ⟨X, h1, -⟩ := h
  have hd : (q.den : Rat) ≠ 0 := nat_ne q.den_pos
  have e1 : q = (q.num : Rat) / (q.den : Rat) := by
    have e0 := q_self q
    rw [Rat.divInt_eq_div] at e0
    exact e0.symm
  rw [e1] at h1
  have e2 : (q.num : Rat) * (M : Rat) = (X : Rat) * (q.den : Rat) := by
    rw [← h1]
    grind
  refine ⟨X, ?_⟩
  have e3 : ((q.num * (M : Int) : Int) : Rat) = ((X * (q.den : Int) : Int) : Rat) := by
    rw [Rat.intCast_mul, Rat.intCast_mul]
    exact e2
  rw [Int.mul_comm (q.den : Int)]
  exact Rat.intCast_inj.mp e3
section SO9
variable {A E : Nat → Nat} {ls : Nat → List Nat} {nl nc nd : Nat} {S : Hp} {D : Dt} {G : Nat → Nat → Nat}
theorem p_isLast {Φ : Hp → Int32 → Prop} {ns : Nat} {lv : Nat → Nat} {ol : List Nat} {act : Nat → Bool} {P : Nat → Rat} (h : Rep A E ls nl nc nd S D) (hns : D.FI 461 0 = nI ns) (hC : LkC G nl D) (hG : GrOK ns nl G) (hL : Lev nl G lv) (hO : OlOK G nl ol) (hls1 : ls 1 = ol.map (fun k => A (400 + k))) (hP : RowV D 2 14 P) (hnb : ∀ i, i < 16 → nb (D.AI 64 i)) (hact : ∀ k, k < nl → D.AI 64 k = bI (act k)) (hT : Last G ns nl P act D)
    (kk : ∀ S' D', Rep A E ls nl nc nd S' D' → SamG (fun _ _ => False) (fun r => r = 65) (fun r => (46 ≤ r ∧ r < 52) ∨ r = 62) D D' → Φ S' 1) : wX7_isLastTurningSame S (A 0) Φ := by
  have h14 := hG.1
  have hnl := hG.2.1
  unfold wX7_isLastTurningSame wX7_isLastTurningSame_b0
  have v462 : S.FI 462 (A 0) = D.FI 462 0 := rep_FI h 462 (by decide) c_al
  rw [v462]
  refine ⟨c_is h, ?_⟩
  rcases hT with e | ⟨inp, y, Ps, tns, mks, e, hi, ey, y48, ⟨hs, hb⟩, hA, hm, hN⟩
  · exact fi_p e (kk S D h SamG.rf)
  rw [e]
  refine fi_n (nI_nm (by omega)) ⟨A 22, rep_fr h (460, 0, 22) (by decide), A 21, rep_fr h (459, 0, 21) (by decide), (mot_ h (m := 2) (by decide)).1, ?_⟩
  refine p_mcopy (m := 2) (m' := 1) h (by decide) (by decide) (by decide) hnb (fun S5 D5 r5 s5 p5 m5 a5 => ?_)
  have eA : (if 0 ≤ y then y else 0 - y) = nI y.toInt.natAbs := abs32 rfl (by omega)
  have P2 : RowV D5 2 14 P := rowV_other hP (s5.2.2 _ (by decide)) (s5.2.2 _ (by decide))
  have w0 : SamG (fun _ _ => False) (fun r => r = 65) (fun r => (46 ≤ r ∧ r < 52) ∨ r = 62) D D5 := s5.wk (fun _ _ q => q) (fun _ q => q) (fun r q => by omega)
  have p0 : RowV D5 8 14 (Ps 0) := p5 (Ps 0) hA
  refine it2_ex (fun j T v => v = nI j ∧ ∃ D', Rep A E ls nl nc nd T D' ∧ SamG (fun _ _ => False) (fun r => r = 65) (fun r => (46 ≤ r ∧ r < 52) ∨ r = 62) D D' ∧ (∀ k, k < nl → D'.AI 65 k = bI (act k)) ∧ RowV D' 8 14 (Ps j) ∧ (∀ k, k < nl → D'.AJ 62 k = i6 (mks j k))) y.toInt.natAbs ?_ ?_ ⟨rfl, D5, r5, w0, fun k hk => (a5 k (by omega)).trans (hact k hk), p0, fun k hk => (m5 k (by omega)).trans (hm k hk)⟩
  · rintro j hj T _ k9 ⟨rfl, D', r', s', a', p', m'⟩ hk9
    have v463 : T.FI 463 (A 0) = y := (rep_FI r' 463 (by decide) c_al).trans ((s'.1 _ _ (fun q => q)).trans ey)
    have w462 : T.FI 462 (A 0) = nI inp := (rep_FI r' 462 (by decide) c_al).trans ((s'.1 _ _ (fun q => q)).trans e)
    obtain ⟨b1, ⟨n, n1, b2⟩, b3⟩ := hb j (by omega)
    obtain ⟨st, eP⟩ := hs j hj
    unfold wX7_isLastTurningSame_b23
    rw [v463, w462, eA]
    refine ⟨c_is r', if_n (nI_ge hj (by omega)) ⟨A 22, rep_fr r' (460, 0, 22) (by decide), ?_⟩⟩
    have go : ∀ z : Int32, z.toInt64 = i6 (wayOf y) → wX7_isLastTurningSame_b55 (A 0) Φ k9 T (nI j) (A 0) (A 22) (nI inp) z := fun z hz => by
      unfold wX7_isLastTurningSame_b55
      refine ⟨c_is r', p_takeStep (m := 2) (n := n) r' (by decide) (lkC_cg hC (fun i r _ _ => s'.1 i r (fun q => q))) hG hL hO hls1 p' m' b3 a' hi hz (way_le y) st b1 n1 b2 (fun S6 D6 r6 s6 q3 q4 q2 q5 => ?_)⟩
      rw [← nI_succ]
      refine hk9 _ _ ⟨rfl, D6, r6, s'.tr (SamJ.G (s6.wk (fun r q => by unfold XM at q; omega))), fun k hk => by rw [s6.2.2.1]; exact a' k hk, ?_, q5⟩
      rw [eP]
      exact q2
    have h0y : 0 ≤ y ↔ 0 ≤ y.toInt := Int32.le_iff_toInt_le
    by_cases c : 0 ≤ y
    · have := h0y.mp c
      have e1 : wayOf y = 1 := if_neg (by omega)
      exact if_p c (go 1 (by rw [e1]; rfl))
    · have : ¬ 0 ≤ y.toInt := fun q => c (h0y.mpr q)
      have e1 : wayOf y = -1 := if_pos (by omega)
      exact if_n c (go (-1) (by rw [e1]; rfl))
  · rintro T _ k9 ⟨rfl, D', r', s', a', p', m'⟩
    have v463 : T.FI 463 (A 0) = y := (rep_FI r' 463 (by decide) c_al).trans ((s'.1 _ _ (fun q => q)).trans ey)
    have vns : T.FI 461 (A 0) = nI ns := (rep_FI r' 461 (by decide) c_al).trans ((s'.1 _ _ (fun q => q)).trans hns)
    have P2' : RowV D' 2 14 P := rowV_other hP (s'.2.2 _ (by decide)) (s'.2.2 _ (by decide))
    rw [hN] at p'
    unfold wX7_isLastTurningSame_b23
    rw [v463, eA]
    refine ⟨c_is r', if_p (nI_le (Nat.le_refl _) (by omega)) ?_⟩
    refine it2_ex (fun j T' v => T' = T ∧ v = nI j) ns ?_ ?_ ⟨rfl, rfl⟩
    · rintro j hj T' _ k8 ⟨rfl, rfl⟩ hk8
      unfold wX7_isLastTurningSame_b66
      rw [vns]
      refine ⟨c_is r', if_n (nI_ge hj (by omega)) ⟨A 22, rep_fr r' (460, 0, 22) (by decide), (mot_ r' (m := 2) (by decide)).1, A 17, (mot_ r' (m := 2) (by decide)).2.1, A 20, rep_fr r' (458, 0, 20) (by decide), (mot_ r' (m := 0) (by decide)).1, A 11, (mot_ r' (m := 0) (by decide)).2.1, (row_ r' (p := 8) (by decide)).1, ?_⟩⟩
      have f1 := p' j (by omega)
      have f2 := P2' j (by omega)
      refine p_isSame (p := 8) (p' := 2) r' (by decide) (by decide) (by show j < 14; omega) (by show j < 14; omega) (fun _ _ => fi_n (by decide) ?_) (fun q => absurd ⟨f1.1.trans f2.1.symm, f1.2.trans f2.2.symm⟩ q)
      rw [← nI_succ]
      exact hk8 _ _ ⟨rfl, rfl⟩
    · rintro T' _ k8 ⟨rfl, rfl⟩
      unfold wX7_isLastTurningSame_b66
      rw [vns]
      exact ⟨c_is r', if_p (nI_le (Nat.le_refl _) (by omega)) (kk _ D' r' s')⟩
theorem p_areInputsWhole {Φ : Hp → Int32 → Prop} {ns n : Nat} {P : Nat → Rat} (h : Rep A E ls nl nc nd S D) (hns : D.FI 461 0 = nI ns) (hG : GrOK ns nl G) (hdr : DrA G nl 14 5 D) (hP : RowV D 2 14 P) (hB : BdP G nl n P) (hn : n ≤ 24600) (kk : Φ S 1) : wX7_areInputsWhole S (A 0) Φ := by
  have h14 := hG.1
  have hnl := hG.2.1
  have vns : S.FI 461 (A 0) = nI ns := (rep_FI h 461 (by decide) c_al).trans hns
  unfold wX7_areInputsWhole wX7_areInputsWhole_b0
  refine it2_ex (fun j T v => T = S ∧ v = nI j) ns ?_ ?_ ⟨rfl, rfl⟩
  · rintro j hj T _ k9 ⟨rfl, rfl⟩ hk9
    unfold wX7_areInputsWhole_b2 wX7_areInputsWhole_b39
    rw [vns]
    have n5 : T.N (A 5) = 14 := rep_N h (al_s (by decide)) (by decide)
    have w : T.AI (A 5) (nI j).toNatClampNeg = match drv G nl j with | none => -1 | some k => nI k := rd_I h (al_s (by decide)) (by omega) (hdr j (by omega))
    refine ⟨c_is h, if_n (nI_ge hj (by omega)) ⟨A 5, rep_fr h (452, 0, 5) (by decide), rep_is h (al_s (by decide)) (by decide), by rw [n5]; exact in_nI (by omega) (by decide), ?_⟩⟩
    rw [w, ← nI_succ]
    cases e : drv G nl j with
    | some k =>
      have hk := (drv_some e).1
      exact fi_n (nI_nm (by omega)) (hk9 _ _ ⟨rfl, rfl⟩)
    | none =>
      obtain ⟨M1, M2, M3⟩ := pm_lt hG j
      have q1 := qn_le M3 hn
      have bq := bd_bq M1 (hB j)
      have rg := bq_rg bq M1 M2 (by omega) 24 (by decide)
      have e24 : pm G nl j = 24 := by
        unfold pm
        show 24 * (match drv G nl j with | none => ((1, 1) : Nat × Nat) | some k => cmb G k (dQ G nl 2 (G k 1)) (dQ G nl 2 (G k 2))).1 = 24
        rw [e]
        rfl
      have dv := dvd_bd (hB j)
      rw [e24] at dv
      refine fi_p rfl ⟨A 20, rep_fr h (458, 0, 20) (by decide), (mot_ h (m := 0) (by decide)).1, A 11, (mot_ h (m := 0) (by decide)).2.1, (row_ h (p := 2) (by decide)).1, p_isWholeTimes (p := 2) (t := 24) h (by decide) (by show j < 14; omega) (hP j (by omega)) rg.2.2.2 rg.2.1 dv (fi_n (by decide) (hk9 _ _ ⟨rfl, rfl⟩))⟩
  · rintro T _ k9 ⟨rfl, rfl⟩
    unfold wX7_areInputsWhole_b2
    rw [vns]
    exact ⟨c_is h, if_p (nI_le (Nat.le_refl _) (by omega)) kk⟩
theorem p_areCamsClosed {Φ : Hp → Int32 → Prop} (h : Rep A E ls nl nc nd S D) (hls : ls 2 = []) (kk : ∀ S', Rep A E ls nl nc nd S' D → Φ S' 1) : wX7_areCamsClosed S (A 0) Φ := by
  unfold wX7_areCamsClosed wX7_areCamsClosed_b0
  show wX7_areCamsClosed_b2 (A 0) Φ (it2 (wX7_areCamsClosed_b2 (A 0) Φ) 9) S 0
  unfold wX7_areCamsClosed_b2
  refine ⟨c_is h, A (1 + 2), rep_fr h (450, 0, 3) (by decide), ls_is h (by decide), p_size h (j := 2) (by decide) (if_p ?_ (kk S h))⟩
  rw [hls]
  decide
theorem p_isSoundC {Φ : Hp → Int32 → Prop} {ns n : Nat} {lv : Nat → Nat} {ol : List Nat} {act : Nat → Bool} {P : Nat → Rat} (h : Rep A E ls nl nc nd S D) (hns : D.FI 461 0 = nI ns) (hC : LkC G nl D) (hG : GrOK ns nl G) (hL : Lev nl G lv) (hO : OlOK G nl ol) (hls0 : ls 0 = (List.range nl).map (fun k => A (400 + k))) (hls1 : ls 1 = ol.map (fun k => A (400 + k))) (hls2 : ls 2 = []) (hdr : DrA G nl 14 5 D) (hP : RowV D 2 14 P) (hB : BdP G nl n P) (hn : n ≤ 24600) (hnb : ∀ i, i < 16 → nb (D.AI 64 i)) (hact : ∀ k, k < nl → D.AI 64 k = bI (act k)) (hT : Last G ns nl P act D)
    (kk : ∀ S' D', Rep A E ls nl nc nd S' D' → SamG (fun _ _ => False) (fun r => r = 65 ∨ r = 6) (fun r => (46 ≤ r ∧ r < 52) ∨ r = 62) D D' → Φ S' 1) : wX7_isSound S (A 0) Φ := by
  unfold wX7_isSound wX7_isSound_b0
  refine ⟨c_is h, p_isLast h hns hC hG hL hO hls1 hP hnb hact hT (fun S1 D1 r1 s1 => if_n (by decide) ⟨c_is r1, ?_⟩)⟩
  have f1 : ∀ i r, D1.FI i r = D.FI i r := fun i r => s1.1 i r (fun q => q)
  have hC1 : LkC G nl D1 := lkC_cg hC (fun i r _ _ => f1 i r)
  refine p_areInputsWhole (n := n) r1 (by rw [f1]; exact hns) hG (drA_cg hdr (s1.2.1 5 (by decide))) (rowV_other hP (s1.2.2 _ (by decide)) (s1.2.2 _ (by decide))) hB hn (if_n (by decide) ⟨c_is r1, ?_⟩)
  have all : ∀ s, s < ns → pss G nl 4 s ≤ 3 := fun s _ => by
    rw [pss_dp hG hL s]
    exact (dp_lev hG hL).2 s
  show wX7_areLevelsFit_n S1 (A 0) _
  refine p_fit_n r1 hC1 hG hls0 (by rw [f1]; exact hns) (fun S2 D2 r2 s2 _ _ => if_n (by decide) ⟨c_is r2, ?_⟩) (fun S2 D2 r2 s2 q => absurd all q)
  have f2 : ∀ i r, D2.FI i r = D.FI i r := fun i r => (s2.1 i r (fun q => q)).trans (f1 i r)
  refine p_areCamsClosed r2 hls2 (fun S3 r3 => if_n (by decide) (kk S3 D2 r3 ?_))
  refine ⟨fun i r _ => f2 i r, fun r hr => ?_, fun r hr => ?_⟩
  · rw [s2.2.1 r (fun q => hr (Or.inr q)), s1.2.1 r (fun q => hr (Or.inl q))]
  · rw [s2.2.2 r (fun q => q), s1.2.2 r hr]
end SO9
