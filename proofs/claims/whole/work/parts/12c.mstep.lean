/-! THE REFERENCE'S STEP -/
def SamX (XI XJ : Nat → Prop) (D D' : Dt) : Prop := D'.FI = D.FI ∧ (∀ r, ¬ XI r → D'.AI r = D.AI r) ∧ ∀ r, ¬ XJ r → D'.AJ r = D.AJ r
theorem SamX.rf {XI XJ : Nat → Prop} {D : Dt} : SamX XI XJ D D := ⟨rfl, fun _ _ => rfl, fun _ _ => rfl⟩
theorem SamX.tr {XI XJ : Nat → Prop} {D D' D'' : Dt} (h : SamX XI XJ D D') (h' : SamX XI XJ D' D'') : SamX XI XJ D D'' := ⟨h'.1.trans h.1, fun r hr => (h'.2.1 r hr).trans (h.2.1 r hr), fun r hr => (h'.2.2 r hr).trans (h.2.2 r hr)⟩
theorem SamX.wk {XI XJ YI YJ : Nat → Prop} {D D' : Dt} (h : SamX XI XJ D D') (h1 : ∀ r, XI r → YI r) (h2 : ∀ r, XJ r → YJ r) : SamX YI YJ D D' := ⟨h.1, fun r hr => h.2.1 r (fun q => hr (h1 r q)), fun r hr => h.2.2 r (fun q => hr (h2 r q))⟩
theorem SamM.X {XI X : Nat → Prop} {D D' : Dt} (h : SamM X D D') : SamX XI X D D' := ⟨h.1, fun r _ => by rw [h.2.1], h.2.2⟩
theorem SamJ.X {XI X : Nat → Prop} {D D' : Dt} (h : SamJ X D D') : SamX XI X D D' := ⟨h.1, fun r _ => by rw [h.2.2.1], h.2.2.2⟩
theorem SamT.X {XI XJ : Nat → Prop} {D D' : Dt} (h : SamT D D') : SamX XI XJ D D' := ⟨h.1, fun r _ => by rw [h.2.1], fun r _ => by rw [h.2.2]⟩
theorem samX_I {XI XJ : Nat → Prop} {D : Dt} {r i : Nat} {v : Int32} (h1 : XI r) : SamX XI XJ D (D.setAI r i v) := ⟨rfl, fun _ hr => up2_row (fun e => hr (e ▸ h1)), fun _ _ => rfl⟩
theorem samX_J {XI XJ : Nat → Prop} {D : Dt} {r i : Nat} {v : Int64} (h1 : XJ r) : SamX XI XJ D (D.setAJ r i v) := ⟨rfl, fun _ _ => rfl, fun _ hr => up2_row (fun e => hr (e ▸ h1))⟩
/-- the size of a fraction -/
def aq (q : Rat) : Rat := if 0 ≤ q then q else -q
theorem aq_num (q : Rat) : (aq q).num = (q.num.natAbs : Int) ∧ (aq q).den = q.den := by
  unfold aq
  by_cases c : 0 ≤ q
  · rw [if_pos c]
    have := Rat.num_nonneg.mpr c
    exact ⟨by omega, rfl⟩
  · rw [if_neg c]
    have : ¬ 0 ≤ q.num := fun h => c (Rat.num_nonneg.mp h)
    refine ⟨?_, rfl⟩
    rw [Rat.neg_num]
    omega
theorem bd_abs {M B : Nat} {q : Rat} (h : Bd M B q) : Bd M B (aq q) := by
  unfold aq
  by_cases c : 0 ≤ q
  · rw [if_pos c]
    exact h
  · rw [if_neg c]
    exact bd_neg h
theorem aq_0 : aq 0 = 0 := if_pos (by decide)
def hit1 (pn : Nat → Nat → Bool) (x : Int) (v : Nat → Int32) : Nat → Int32 := fun t => if pn (x % 24).toNat t = true then v t + 1 else v t
def hitN (pn : Nat → Nat → Bool) (lo : Int) : Nat → (Nat → Int32) → Nat → Int32
  | 0, v => v
  | n + 1, v => hit1 pn (lo + n + 1) (hitN pn lo n v)
/-- the strikes as a shaft goes from a to b -/
def hits (pn : Nat → Nat → Bool) (a b : Int) (v : Nat → Int32) : Nat → Int32 := hitN pn (min a b) (b - a).natAbs v
theorem hitN_congr {pn : Nat → Nat → Bool} {lo : Int} {v v' : Nat → Int32} {t : Nat} (h : v t = v' t) : ∀ n, hitN pn lo n v t = hitN pn lo n v' t := by
  intro n
  induction n with
  | zero => exact h
  | succ n ih =>
    show (if pn ((lo + n + 1) % 24).toNat t = true then hitN pn lo n v t + 1 else hitN pn lo n v t) = (if pn ((lo + n + 1) % 24).toNat t = true then hitN pn lo n v' t + 1 else hitN pn lo n v' t)
    rw [ih]
theorem hits_congr {pn : Nat → Nat → Bool} {a b : Int} {v v' : Nat → Int32} {t : Nat} (h : v t = v' t) : hits pn a b v t = hits pn a b v' t := hitN_congr h _
theorem i6_min {x y : Int} (hx : Rg x) (hy : Rg y) : (if i6 x < i6 y then i6 x else i6 y) = i6 (min x y) := by
  have e : i6 x < i6 y ↔ x < y := by rw [Int64.lt_iff_toInt_lt, to_i6 hx, to_i6 hy]
  by_cases c : x < y
  · rw [if_pos (e.mpr c)]
    have : min x y = x := by omega
    rw [this]
  · rw [if_neg (fun q => c (e.mp q))]
    have : min x y = y := by omega
    rw [this]
theorem i6_3 {m : Nat} (_hm : m < 2 ^ 31) : (i6 (m : Int)).toInt32 = nI m := by
  unfold i6
  rw [Int64.toInt32_ofInt]
  exact Int32.ofInt_eq_ofNat
section MS9
variable {A E : Nat → Nat} {ls : Nat → List Nat} {nl nc nd : Nat} {S : Hp} {D : Dt} {G : Nat → Nat → Nat}
theorem t_wears {Φ : Hp → Prop} {k s n ns M B1 B2 : Nat} {W R : Nat → Rat} (h : Rep A E ls nl nc nd S D) (hk : k < n) (hn : n ≤ 16) (hs : s < ns) (hns : ns ≤ 14) (hW : MR D 91 n W) (hR : MR D 74 ns R) (b1 : Bd M B1 (W k)) (b2 : Bd M B2 (R s)) (hM0 : 0 < M) (hM : M ≤ 67184640000000) (hB : B1 + B2 ≤ 100000000000000000)
    (kk : ∀ S' D', Rep A E ls nl nc nd S' D' → SamM (fun r => r = 91 ∨ r = 92) D D' → MR D' 91 n (vup W k (W k + aq (R s))) → Φ S') : wX8_wears S (A 70) (nI k) (nI s) Φ := by
  have k16 : ∀ n, n = 16 → vp_in (nI k) n := fun n e => by
    rw [e]
    exact in_nI (by omega) (by decide)
  have s14 : ∀ n, n = 14 → vp_in (nI s) n := fun n e => by
    rw [e]
    exact in_nI (by omega) (by decide)
  have a91 := m_arr h 531 91 22 16
  have a92 := m_arr h 532 92 22 16
  have a74 := m_arr h 514 74 22 14
  have a75 := m_arr h 515 75 22 14
  have hWk := hW k hk
  have hRs := hR s hs
  have v91 : S.AJ (A 91) (nI k).toNatClampNeg = i6 (W k).num := rd_J h (al_s (by decide)) (by omega) hWk.1
  have v92 : S.AJ (A 92) (nI k).toNatClampNeg = i6 (W k).den := rd_J h (al_s (by decide)) (by omega) hWk.2
  have v74 : S.AJ (A 74) (nI s).toNatClampNeg = i6 (R s).num := rd_J h (al_s (by decide)) (by omega) hRs.1
  have v75 : S.AJ (A 75) (nI s).toNatClampNeg = i6 (R s).den := rd_J h (al_s (by decide)) (by omega) hRs.2
  have q2 := bd_bq hM0 (bd_abs b2)
  have r2 := bq_rg (bd_bq hM0 b2) hM0 hM (by omega) 1 (by omega)
  obtain ⟨x1, x2⟩ := aq_num (R s)
  have q2' : Bp M B2 ((R s).num.natAbs : Int) (R s).den := by
    have := q2
    unfold Bq at this
    rw [x1, x2] at this
    exact this
  unfold wX8_wears wX8_wears_b0
  refine ⟨m_is h, A 91, a91.1, a91.2.1, k16 _ a91.2.2, A 92, a92.1, a92.2.1, k16 _ a92.2.2, A 74, a74.1, a74.2.1, s14 _ a74.2.2, A 75, a75.1, a75.2.1, s14 _ a75.2.2, ?_⟩
  rw [v91, v92, v74, v75, i6_abs r2.1]
  refine t_sum h (bd_bq hM0 b1) q2' hM0 (by omega) (by omega) (fun S14 D14 h14 t14 q14 => ⟨m_is h14, ?_⟩)
  have eq14 : Rat.divInt (W k).num (W k).den + Rat.divInt ((R s).num.natAbs : Int) (R s).den = W k + aq (R s) := by
    rw [q_self, ← x1, ← x2, q_self]
  rw [eq14] at q14
  obtain ⟨t1, t2⟩ := m_top h14 q14
  have b91 := m_arr h14 531 91 22 16
  refine ⟨A 91, b91.1, b91.2.1, k16 _ b91.2.2, fun S19 e19 => ?_⟩
  rw [t1, cl_nI (by omega)] at e19
  have h19 := set_AJ h14 (r := 91) k (i6 (W k + aq (R s)).num) (al_s (by decide))
  rw [← e19] at h19
  have t2' : S19.FJ 548 (A 70) = i6 (W k + aq (R s)).den := by
    rw [e19]
    exact t2
  have b92 := m_arr h19 532 92 22 16
  refine ⟨A 92, b92.1, b92.2.1, k16 _ b92.2.2, fun S23 e23 => ?_⟩
  rw [t2', cl_nI (by omega)] at e23
  have h23 := set_AJ h19 (r := 92) k (i6 (W k + aq (R s)).den) (al_s (by decide))
  rw [← e23] at h23
  refine kk S23 _ h23 ((t14.M.tr (samM_set (Or.inl rfl))).tr (samM_set (Or.inr rfl))) ?_
  exact mr_set (mr_other hW (by rw [t14.2.2]) (by rw [t14.2.2]))
/-- the last phase: the places -/
theorem m_ph6 {Φ : Hp → Prop} {ns n : Nat} {P tn : Nat → Rat} {x1 x2 : Int32} (h : Rep A E ls nl nc nd S D) (hG : GrOK ns nl G) (hns : D.FI 543 70 = nI ns) (hP : MR D 72 ns P) (hR : MR D 74 ns tn) (hn : n ≤ 24560) (hB : BdP G nl n P) (htb : ∀ s, Bd (pm G nl s) (qm G nl s) (tn s))
    (kk : ∀ S' D', Rep A E ls nl nc nd S' D' → SamM (fun r => r = 72 ∨ r = 73) D D' → MR D' 72 ns (fun s => P s + tn s) → Φ S') : ∃ n, it2 (wX8_step_b228 (A 70) x1 x2 Φ) n S 0 := by
  have h14 := hG.1
  refine it2_ex (fun j S1 v => v = nI j ∧ ∃ D1, Rep A E ls nl nc nd S1 D1 ∧ SamM (fun r => r = 72 ∨ r = 73) D D1 ∧ MR D1 72 ns (fun s => if s < j then P s + tn s else P s)) ns ?_ ?_ ⟨rfl, D, h, SamM.rf, mr_congr hP (fun i _ => by rw [if_neg (Nat.not_lt_zero i)])⟩
  · rintro j hj S1 _ k9 ⟨rfl, D1, h1, s1, r1⟩ hk9
    have s14 : ∀ n, n = 14 → vp_in (nI j) n := fun n e => by
      rw [e]
      exact in_nI (by omega) (by decide)
    have vns : S1.FI 543 (A 70) = nI ns := by
      rw [rep_FI h1 543 (by decide) m_al, s1.1]
      exact hns
    have a72 := m_arr h1 512 72 22 14
    have a73 := m_arr h1 513 73 22 14
    have a74 := m_arr h1 514 74 22 14
    have a75 := m_arr h1 515 75 22 14
    have hPj := r1 j hj
    dsimp only at hPj
    rw [if_neg (Nat.lt_irrefl j)] at hPj
    have hR1 : MR D1 74 ns tn := mr_other hR (s1.2.2 74 (by decide)) (s1.2.2 75 (by decide))
    have hRj := hR1 j hj
    have v72 : S1.AJ (A 72) (nI j).toNatClampNeg = i6 (P j).num := rd_J h1 (al_s (by decide)) (by omega) hPj.1
    have v73 : S1.AJ (A 73) (nI j).toNatClampNeg = i6 (P j).den := rd_J h1 (al_s (by decide)) (by omega) hPj.2
    have v74 : S1.AJ (A 74) (nI j).toNatClampNeg = i6 (tn j).num := rd_J h1 (al_s (by decide)) (by omega) hRj.1
    have v75 : S1.AJ (A 75) (nI j).toNatClampNeg = i6 (tn j).den := rd_J h1 (al_s (by decide)) (by omega) hRj.2
    obtain ⟨M1, M2, M3⟩ := pm_lt hG j
    have hq := qn_le M3 (show n ≤ 24600 by omega)
    unfold wX8_step_b228
    rw [vns]
    refine ⟨m_is h1, if_n (nI_ge hj (by omega)) ⟨A 72, a72.1, a72.2.1, s14 _ a72.2.2, A 73, a73.1, a73.2.1, s14 _ a73.2.2, A 74, a74.1, a74.2.1, s14 _ a74.2.2, A 75, a75.1, a75.2.1, s14 _ a75.2.2, ?_⟩⟩
    rw [v72, v73, v74, v75]
    refine t_sum h1 (bd_bq M1 (hB j)) (bd_bq M1 (htb j)) M1 (by omega) (by omega) (fun S15 D15 h15 t15 q15 => ⟨m_is h15, ?_⟩)
    rw [q_self, q_self] at q15
    obtain ⟨t1, t2⟩ := m_top h15 q15
    have b72 := m_arr h15 512 72 22 14
    refine ⟨A 72, b72.1, b72.2.1, s14 _ b72.2.2, fun S20 e20 => ?_⟩
    rw [t1, cl_nI (by omega)] at e20
    have h20 := set_AJ h15 (r := 72) j (i6 (P j + tn j).num) (al_s (by decide))
    rw [← e20] at h20
    have t2' : S20.FJ 548 (A 70) = i6 (P j + tn j).den := by
      rw [e20]
      exact t2
    have b73 := m_arr h20 513 73 22 14
    refine ⟨A 73, b73.1, b73.2.1, s14 _ b73.2.2, fun S24 e24 => ?_⟩
    rw [t2', cl_nI (by omega)] at e24
    have h24 := set_AJ h20 (r := 73) j (i6 (P j + tn j).den) (al_s (by decide))
    rw [← e24] at h24
    rw [← nI_succ]
    refine hk9 _ _ ⟨rfl, _, h24, s1.tr ((t15.M.tr (samM_set (Or.inl rfl))).tr (samM_set (Or.inr rfl))), ?_⟩
    have r15 : MR D15 72 ns (fun s => if s < j then P s + tn s else P s) := mr_other r1 (by rw [t15.2.2]) (by rw [t15.2.2])
    refine mr_congr (mr_set (i := j) (q := P j + tn j) r15) (fun i hi => ?_)
    unfold vup
    by_cases c : i = j
    · rw [if_pos c, if_pos (by omega), c]
    · rw [if_neg c]
      dsimp only
      by_cases c2 : i < j
      · rw [if_pos c2, if_pos (by omega)]
      · rw [if_neg c2, if_neg (by omega)]
  · rintro S1 _ k9 ⟨rfl, D1, h1, s1, r1⟩
    have vns : S1.FI 543 (A 70) = nI ns := by
      rw [rep_FI h1 543 (by decide) m_al, s1.1]
      exact hns
    unfold wX8_step_b228
    rw [vns]
    exact ⟨m_is h1, if_p (nI_le (Nat.le_refl _) (by omega)) (kk S1 D1 h1 s1 (mr_congr r1 (fun i hi => if_pos hi)))⟩
theorem grid_d (h : Rep A E ls nl nc nd S D) {d : Nat} (hd : d < 4) : S.AR (A 102) d = some (A (240 + d)) ∧ S.AR (A 101) d = some (A (250 + d)) ∧ (∀ p, p < 24 → S.AR (A (250 + d)) p = some (A (300 + 24 * d + p))) ∧ isA S (A (240 + d)) 21 ∧ isA S (A (250 + d)) 28 ∧ (∀ p, p < 24 → isA S (A (300 + 24 * d + p)) 23 ∧ S.N (A (300 + 24 * d + p)) = 8) ∧ S.N (A (240 + d)) = 8 ∧ S.N (A (250 + d)) = 24 := by
  have hs : ∀ d, d < 4 → sdr (240 + d) = true ∧ sdr (250 + d) = true ∧ kdr (240 + d) = 21 ∧ kdr (250 + d) = 28 ∧ ndr (240 + d) = 8 ∧ ndr (250 + d) = 24 := by decide
  have hs2 : ∀ x, x < 96 → sdr (300 + x) = true ∧ kdr (300 + x) = 23 ∧ ndr (300 + x) = 8 := by decide +kernel
  obtain ⟨h1, h2, h3⟩ := h.1.2.2.2.2.1 d hd
  obtain ⟨s1, s2, s3, s4, s5, s6⟩ := hs d hd
  refine ⟨h1, h2, h3, rep_is h (al_s s1) s3, rep_is h (al_s s2) s4, fun p hp => ?_, rep_N h (al_s s1) s5, rep_N h (al_s s2) s6⟩
  have e : 300 + 24 * d + p = 300 + (24 * d + p) := by omega
  obtain ⟨t1, t2, t3⟩ := hs2 (24 * d + p) (by omega)
  rw [e]
  exact ⟨rep_is h (al_s t1) t2, rep_N h (al_s t1) t3⟩
theorem pin_al {d p : Nat} (hd : d < 4) (hp : p < 24) : al nl nc nd (300 + 24 * d + p) := by
  have hs2 : ∀ x, x < 96 → sdr (300 + x) = true := by decide +kernel
  have e : 300 + 24 * d + p = 300 + (24 * d + p) := by omega
  rw [e]
  exact al_s (hs2 _ (by omega))
theorem str_al {d : Nat} (hd : d < 4) : al nl nc nd (240 + d) := by
  have hs : ∀ d, d < 4 → sdr (240 + d) = true := by decide
  exact al_s (hs d hd)
def PinM (pn : Nat → Nat → Nat → Bool) (D : Dt) : Prop := ∀ d p t, d < 4 → p < 24 → t < 8 → D.AI (300 + 24 * d + p) t = bI (pn d p t)
/-- one number goes by -/
theorem t_hit1 {k92 : Hp → Int64 → Int64 → Prop} {Φ : Hp → Prop} {d p : Nat} {v9 v11 : Int64} {pn : Nat → Nat → Nat → Bool} (h : Rep A E ls nl nc nd S D) (hd : d < 4) (hp : p < 24) (hpn : PinM pn D)
    (kk : ∀ S' D', Rep A E ls nl nc nd S' D' → SamX (fun r => r = 240 + d) (fun _ => False) D D' → (∀ t, t < 8 → D'.AI (240 + d) t = if pn d p t = true then D.AI (240 + d) t + 1 else D.AI (240 + d) t) → k92 S' v9 (v11 + 1)) : ∃ n, it5 (wX8_strikes_b114 (A 70) (nI d) Φ k92) n S v9 v11 (nI p) 0 := by
  refine it5_ex (fun j S1 a b c v => v9 = a ∧ v11 = b ∧ c = nI p ∧ v = nI j ∧ ∃ D1, Rep A E ls nl nc nd S1 D1 ∧ SamX (fun r => r = 240 + d) (fun _ => False) D D1 ∧ ∀ t, t < 8 → D1.AI (240 + d) t = if t < j ∧ pn d p t = true then D.AI (240 + d) t + 1 else D.AI (240 + d) t) 8 ?_ ?_ ⟨rfl, rfl, rfl, rfl, D, h, SamX.rf, fun t _ => by rw [if_neg (fun q => Nat.not_lt_zero t q.1)]⟩
  · rintro j hj S1 _ _ _ _ k9 ⟨rfl, rfl, rfl, rfl, D1, h1, s1, r1⟩ hk9
    obtain ⟨g1, g2, g3, g4, g5, g6, g7, g8⟩ := grid_d h1 hd
    have a102 := m_arr h1 542 102 26 4
    have a101 := m_arr h1 541 101 29 4
    have cd : (nI d).toNatClampNeg = d := cl_nI (by omega)
    have cp : (nI p).toNatClampNeg = p := cl_nI (by omega)
    have cj : (nI j).toNatClampNeg = j := cl_nI (by omega)
    have vpin : S1.AI (A (300 + 24 * d + p)) j = bI (pn d p j) := by
      rw [rep_AI h1 j (pin_al hd hp), s1.2.1 _ (by omega)]
      exact hpn d p j hd hp hj
    have vst : S1.AI (A (240 + d)) j = D.AI (240 + d) j := by
      rw [rep_AI h1 j (str_al hd), r1 j hj, if_neg (fun q => Nat.lt_irrefl j q.1)]
    unfold wX8_strikes_b114
    rw [cd, cp, cj]
    refine if_n (nI_ge (b := 8) hj (by decide)) ⟨m_is h1, A 102, a102.1, a102.2.1, by rw [a102.2.2]; exact in_nI hd (by decide), A (240 + d), g1, g4, by rw [g7]; exact in_nI hj (by decide), A 101, a101.1, a101.2.1, by rw [a101.2.2]; exact in_nI hd (by decide), A (250 + d), g2, g5, by rw [g8]; exact in_nI hp (by decide), A (300 + 24 * d + p), g3 p hp, (g6 p hp).1, by rw [(g6 p hp).2]; exact in_nI hj (by decide), ?_⟩
    rw [vpin, vst]
    have go : ∀ z : Int32, (z = if pn d p j = true then 1 else 0) → wX8_strikes_b151 (A 70) (nI d) Φ k92 k9 S1 v9 v11 (nI p) (nI j) (A (240 + d)) (nI j) (D.AI (240 + d) j) z := fun z hz => by
      unfold wX8_strikes_b151
      refine ⟨g4, by rw [g7]; exact in_nI hj (by decide), fun S3 e3 => ?_⟩
      rw [cj] at e3
      have h3 := set_AI h1 (r := 240 + d) j (D.AI (240 + d) j + z) (str_al hd)
      rw [← e3] at h3
      rw [← nI_succ]
      refine hk9 _ _ _ _ _ ⟨rfl, rfl, rfl, rfl, _, h3, s1.tr (samX_I rfl), fun t ht => ?_⟩
      by_cases c : t = j
      · rw [c, dtAI_s, hz]
        by_cases c2 : pn d p j = true
        · rw [if_pos c2, if_pos ⟨by omega, c2⟩]
        · rw [if_neg c2, if_neg (fun q => c2 q.2)]
          exact Int32.add_zero _
      · rw [dtAI_n (fun q => c q.2), r1 t ht]
        by_cases c2 : t < j ∧ pn d p t = true
        · rw [if_pos c2, if_pos ⟨by omega, c2.2⟩]
        · rw [if_neg c2, if_neg (fun q => c2 ⟨by omega, q.2⟩)]
    cases hb : pn d p j
    · exact if_p rfl (go 0 (by rw [hb]; rfl))
    · exact if_n (by decide) (go 1 (by rw [hb]; rfl))
  · rintro S1 _ _ _ _ k9 ⟨rfl, rfl, rfl, rfl, D1, h1, s1, r1⟩
    unfold wX8_strikes_b114
    refine if_p (nI_le (a := 8) (b := 8) (Nat.le_refl _) (by decide)) (kk S1 D1 h1 s1 (fun t ht => ?_))
    rw [r1 t ht]
    by_cases c : pn d p t = true
    · rw [if_pos c, if_pos ⟨ht, c⟩]
    · rw [if_neg c, if_neg (fun q => c q.2)]
theorem t_strikes {Φ : Hp → Prop} {d σ ns n : Nat} {P R : Nat → Rat} {pn : Nat → Nat → Nat → Bool} (h : Rep A E ls nl nc nd S D) (hG : GrOK ns nl G) (hd : d < 4) (hsh : D.AI 100 d = nI σ) (hσ : σ < ns) (hP : MR D 72 ns P) (hR : MR D 74 ns R) (hn : n ≤ 24560) (hB : BdP G nl n P) (hRb : ∀ s, Bd (pm G nl s) (qm G nl s) (R s)) (hpn : PinM pn D)
    (kk : ∀ S' D', Rep A E ls nl nc nd S' D' → SamX (fun r => r = 240 + d) (fun _ => False) D D' → (∀ t, t < 8 → D'.AI (240 + d) t = hits (pn d) (fl 24 (P σ)) (fl 24 (P σ + R σ)) (fun t => D.AI (240 + d) t) t) → Φ S') : wX8_strikes S (A 70) (nI d) Φ := by
  have h14 := hG.1
  have a100 := m_arr h 540 100 21 4
  have v100 : S.AI (A 100) (nI d).toNatClampNeg = nI σ := rd_I h (al_s (by decide)) (by omega) hsh
  have s14 : ∀ n, n = 14 → vp_in (nI σ) n := fun n e => by
    rw [e]
    exact in_nI (by omega) (by decide)
  have hPs := hP σ hσ
  have hRs := hR σ hσ
  have a72 := m_arr h 512 72 22 14
  have a73 := m_arr h 513 73 22 14
  have a74 := m_arr h 514 74 22 14
  have a75 := m_arr h 515 75 22 14
  have v72 : S.AJ (A 72) (nI σ).toNatClampNeg = i6 (P σ).num := rd_J h (al_s (by decide)) (by omega) hPs.1
  have v73 : S.AJ (A 73) (nI σ).toNatClampNeg = i6 (P σ).den := rd_J h (al_s (by decide)) (by omega) hPs.2
  have v74 : S.AJ (A 74) (nI σ).toNatClampNeg = i6 (R σ).num := rd_J h (al_s (by decide)) (by omega) hRs.1
  have v75 : S.AJ (A 75) (nI σ).toNatClampNeg = i6 (R σ).den := rd_J h (al_s (by decide)) (by omega) hRs.2
  obtain ⟨M1, M2, M3⟩ := pm_lt hG σ
  have hq := qn_le M3 (show n ≤ 24600 by omega)
  have bP := bq_rg (bd_bq M1 (hB σ)) M1 M2 (by omega) 24 (by omega)
  have bV := bq_rg (bd_bq M1 (bd_add (hB σ) (hRb σ))) M1 M2 (by omega) 24 (by omega)
  have flr : ∀ q : Rat, Rg (q.num * (24 : Nat)) → Rg (fl 24 q) ∧ (fl 24 q).natAbs ≤ (q.num * (24 : Nat)).natAbs := fun q hr => by
    unfold fl
    have h1 := Int.natAbs_ediv_le_natAbs ((24 : Int) * q.num) (q.den : Int)
    have e : (24 : Int) * q.num = q.num * (24 : Nat) := Int.mul_comm _ _
    rw [e] at h1 ⊢
    exact ⟨rg_abs h1 hr, h1⟩
  obtain ⟨fa, fa'⟩ := flr (P σ) bP.2.2.2
  obtain ⟨fb, fb'⟩ := flr (P σ + R σ) bV.2.2.2
  unfold wX8_strikes wX8_strikes_b0
  refine ⟨m_is h, A 100, a100.1, a100.2.1, by rw [a100.2.2]; exact in_nI hd (by decide), A 72, a72.1, a72.2.1, ?_, ?_⟩
  · rw [v100]
    exact s14 _ a72.2.2
  rw [v100]
  refine ⟨A 73, a73.1, a73.2.1, s14 _ a73.2.2, ?_⟩
  rw [v72, v73]
  refine p_floor (t := (24 : Int)) (by rw [Int.mul_comm]; exact bP.2.2.2) bP.2.1 ⟨m_is h, A 72, a72.1, a72.2.1, s14 _ a72.2.2, A 73, a73.1, a73.2.1, s14 _ a73.2.2, A 74, a74.1, a74.2.1, s14 _ a74.2.2, A 75, a75.1, a75.2.1, s14 _ a75.2.2, ?_⟩
  rw [v72, v73, v74, v75]
  refine t_sum h (bd_bq M1 (hB σ)) (bd_bq M1 (hRb σ)) M1 (by omega) (by omega) (fun S26 D26 h26 t26 q26 => ⟨m_is h26, ?_⟩)
  rw [q_self, q_self] at q26
  obtain ⟨t1, t2⟩ := m_top h26 q26
  rw [t1, t2]
  refine p_floor (t := (24 : Int)) (by rw [Int.mul_comm]; exact bV.2.2.2) bV.2.1 ?_
  generalize fl 24 (P σ) = a at *
  generalize fl 24 (P σ + R σ) = b at *
  have ra : a.natAbs ≤ 2400000000000000000 := by
    have h1 : ((P σ).num * (24 : Nat)).natAbs = (P σ).num.natAbs * 24 := by rw [Int.natAbs_mul, Int.natAbs_natCast]
    obtain ⟨w0, w1, w2, w3⟩ := bd_bq M1 (hB σ)
    have w4 : 0 < w1 := Nat.pos_of_ne_zero (fun e => by rw [e, Nat.mul_zero] at w2; omega)
    have w5 : (P σ).num.natAbs ≤ (P σ).num.natAbs * w1 := Nat.le_mul_of_pos_right _ w4
    omega
  have rb : b.natAbs ≤ 2400000000000000000 := by
    have h1 : ((P σ + R σ).num * (24 : Nat)).natAbs = (P σ + R σ).num.natAbs * 24 := by rw [Int.natAbs_mul, Int.natAbs_natCast]
    obtain ⟨w0, w1, w2, w3⟩ := bd_bq M1 (bd_add (hB σ) (hRb σ))
    have w4 : 0 < w1 := Nat.pos_of_ne_zero (fun e => by rw [e, Nat.mul_zero] at w2; omega)
    have w5 : (P σ + R σ).num.natAbs ≤ (P σ + R σ).num.natAbs * w1 := Nat.le_mul_of_pos_right _ w4
    omega
  have eM : (if i6 b < i6 a then i6 a else i6 b) = i6 (min a b + ((b - a).natAbs : Int)) := by
    rw [i6_max fb fa]
    congr 1
    omega
  have em : (if i6 b < i6 a then i6 b else i6 a) + 1 = i6 (min a b + (0 : Nat) + 1) := by
    rw [i6_min fb fa, i6_1, i6_add]
    congr 1
    omega
  rw [eM, em]
  have hr : ∀ j : Nat, j ≤ (b - a).natAbs → Rg (min a b + (j : Int) + 1) := fun j hj => by
    unfold Rg
    omega
  have hr2 : Rg (min a b + ((b - a).natAbs : Int)) := by
    unfold Rg
    omega
  refine it3_ex (fun j S1 x v => x = i6 (min a b + ((b - a).natAbs : Int)) ∧ v = i6 (min a b + (j : Int) + 1) ∧ ∃ D1, Rep A E ls nl nc nd S1 D1 ∧ SamX (fun r => r = 240 + d) (fun _ => False) D D1 ∧ ∀ t, t < 8 → D1.AI (240 + d) t = hitN (pn d) (min a b) j (fun t => D.AI (240 + d) t) t) (b - a).natAbs ?_ ?_ ⟨rfl, rfl, D26, h26, t26.X, fun t _ => by rw [t26.2.1]; rfl⟩
  · rintro j hj S1 _ _ k9 ⟨rfl, rfl, D1, h1, s1, r1⟩ hk9
    unfold wX8_strikes_b92
    refine if_n ?_ ?_
    · rw [cmp_gt (hr j (by omega)) hr2]
      omega
    · rw [i6_24]
      refine p_floorMod (hr j (by omega)) rg_24 (by decide) ?_
      have hm0 := Int.emod_nonneg (min a b + (j : Int) + 1) (show (24 : Int) ≠ 0 by decide)
      have hm1 := Int.emod_lt_of_pos (min a b + (j : Int) + 1) (show (0 : Int) < 24 by decide)
      have ep : (i6 ((min a b + (j : Int) + 1) % 24)).toInt32 = nI ((min a b + (j : Int) + 1) % 24).toNat := by
        have e : (min a b + (j : Int) + 1) % 24 = (((min a b + (j : Int) + 1) % 24).toNat : Int) := by omega
        rw [e]
        exact i6_3 (by omega)
      rw [ep]
      refine t_hit1 (pn := pn) h1 hd (by omega) ?_ (fun S2 D2 h2 s2 r2 => ?_)
      · intro d' p t hd' hp ht
        rw [s1.2.1 _ (by omega)]
        exact hpn d' p t hd' hp ht
      · rw [i6_1, i6_add]
        have e : min a b + (j : Int) + 1 + 1 = min a b + ((j + 1 : Nat) : Int) + 1 := by omega
        rw [e]
        refine hk9 _ _ _ ⟨rfl, rfl, D2, h2, s1.tr s2, fun t ht => ?_⟩
        rw [r2 t ht, r1 t ht]
        rfl
  · rintro S1 _ _ k9 ⟨rfl, rfl, D1, h1, s1, r1⟩
    unfold wX8_strikes_b92
    refine if_p ?_ (kk S1 D1 h1 s1 r1)
    rw [cmp_gt (hr _ (Nat.le_refl _)) hr2]
    omega
end MS9
