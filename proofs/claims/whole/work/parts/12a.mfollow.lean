/-! THE REFERENCE: following a link -/
def LkM (G : Nat → Nat → Nat) (nl : Nat) (D : Dt) : Prop := ∀ k, k < nl → D.AI 81 k = nI (G k 0) ∧ D.AI 82 k = nI (G k 1) ∧ D.AI 83 k = sec G k ∧ D.AI 84 k = nI (G k 3) ∧ D.AI 85 k = nI (G k 4) ∧ D.AI 86 k = nI (G k 5)
def SamM (X : Nat → Prop) (D D' : Dt) : Prop := D'.FI = D.FI ∧ D'.AI = D.AI ∧ ∀ r, ¬ X r → D'.AJ r = D.AJ r
theorem SamM.rf {X : Nat → Prop} {D : Dt} : SamM X D D := ⟨rfl, rfl, fun _ _ => rfl⟩
theorem SamM.tr {X : Nat → Prop} {D D' D'' : Dt} (h : SamM X D D') (h' : SamM X D' D'') : SamM X D D'' := ⟨h'.1.trans h.1, h'.2.1.trans h.2.1, fun r hr => (h'.2.2 r hr).trans (h.2.2 r hr)⟩
theorem SamM.wk {X Y : Nat → Prop} {D D' : Dt} (h : SamM X D D') (hXY : ∀ r, X r → Y r) : SamM Y D D' := ⟨h.1, h.2.1, fun r hr => h.2.2 r (fun q => hr (hXY r q))⟩
theorem samM_set {X : Nat → Prop} {D : Dt} {r i : Nat} {v : Int64} (h1 : X r) : SamM X D (D.setAJ r i v) := ⟨rfl, rfl, fun _ hr => up2_row (fun e => hr (e ▸ h1))⟩
theorem samM_top {X : Nat → Prop} {D : Dt} {q : Rat} : SamM X D (setTop D q) := ⟨rfl, rfl, fun _ _ => rfl⟩
/-- two rows of the reference that bear fractions -/
def MR (D : Dt) (r n : Nat) (V : Nat → Rat) : Prop := ∀ i, i < n → Fq (D.AJ r i) (D.AJ (r + 1) i) (V i)
theorem mr_other {D D' : Dt} {r n : Nat} {V : Nat → Rat} (h : MR D r n V) (h1 : D'.AJ r = D.AJ r) (h2 : D'.AJ (r + 1) = D.AJ (r + 1)) : MR D' r n V := by
  intro i hi
  rw [h1, h2]
  exact h i hi
theorem mr_set {D : Dt} {r n i : Nat} {V : Nat → Rat} {q : Rat} (h : MR D r n V) : MR ((D.setAJ r i (i6 q.num)).setAJ (r + 1) i (i6 q.den)) r n (vup V i q) := by
  intro j hj
  have h1 := h j hj
  unfold vup
  show Fq (up2 (up2 D.AJ r i (i6 q.num)) (r + 1) i (i6 q.den) r j) (up2 (up2 D.AJ r i (i6 q.num)) (r + 1) i (i6 q.den) (r + 1) j) _
  by_cases e : j = i
  · rw [if_pos e, e, up2_n (fun z => by omega), up2_s, up2_s]
    exact ⟨rfl, rfl⟩
  · rw [if_neg e, up2_n (fun z => e z.2), up2_n (fun z => e z.2), up2_n (fun z => e z.2), up2_n (fun z => e z.2)]
    exact h1
theorem mr_congr {D : Dt} {r n : Nat} {V V' : Nat → Rat} (h : MR D r n V) (e : ∀ i, i < n → V i = V' i) : MR D r n V' := fun i hi => by
  rw [← e i hi]
  exact h i hi
theorem q_prod {q : Rat} {a b : Nat} : Rat.divInt q.num q.den * Rat.divInt (a : Int) (b : Int) = q * (a : Rat) / (b : Rat) := by
  rw [q_self, Rat.divInt_eq_div]
  have e1 : ((a : Int) : Rat) = (a : Rat) := rfl
  have e2 : ((b : Int) : Rat) = (b : Rat) := rfl
  rw [e1, e2, Rat.div_def, Rat.div_def, Rat.mul_assoc]
theorem q_prodn {q : Rat} {a b : Nat} : Rat.divInt (-q.num) q.den * Rat.divInt (a : Int) (b : Int) = -(q * (a : Rat) / (b : Rat)) := by
  rw [← q_prod, ← Rat.neg_mul, Rat.neg_divInt]
section MF9
variable {A E : Nat → Nat} {ls : Nat → List Nat} {nl nc nd : Nat} {S : Hp} {D : Dt} {G : Nat → Nat → Nat}
/-- an array of the reference, by its field -/
theorem m_arr (h : Rep A E ls nl nc nd S D) (f r k n : Nat) (hx : (f, 70, r) ∈ rfT := by decide) (hs : sdr r = true := by decide) (hk : kdr r = k := by decide) (hn : ndr r = n := by decide) : S.FR f (A 70) = some (A r) ∧ isA S (A r) k ∧ S.N (A r) = n := ⟨rep_fr h _ hx, rep_is h (al_s hs) hk, rep_N h (al_s hs) hn⟩
theorem rd_I (h : Rep A E ls nl nc nd S D) {r i : Nat} {v : Int32} (ha : al nl nc nd r) (hi : i < 2 ^ 31) (e : D.AI r i = v) : S.AI (A r) (nI i).toNatClampNeg = v := by
  rw [cl_nI hi, rep_AI h i ha, e]
theorem rd_J (h : Rep A E ls nl nc nd S D) {r i : Nat} {v : Int64} (ha : al nl nc nd r) (hi : i < 2 ^ 31) (e : D.AJ r i = v) : S.AJ (A r) (nI i).toNatClampNeg = v := by
  rw [cl_nI hi, rep_AJ h i ha, e]
theorem i6_max0 {w : Int} (h : Rg w) : (if i6 w < 0 then 0 else i6 w) = i6 (max 0 w) := by
  have e : i6 w < 0 ↔ w < 0 := by rw [i6_0, Int64.lt_iff_toInt_lt, to_i6 h, to_i6 rg_0]
  by_cases c : w < 0
  · rw [if_pos (e.mpr c)]
    have : max 0 w = 0 := by omega
    rw [this]
    rfl
  · rw [if_neg (fun q => c (e.mp q))]
    have : max 0 w = w := by omega
    rw [this]
theorem i6_max {x y : Int} (hx : Rg x) (hy : Rg y) : (if i6 x < i6 y then i6 y else i6 x) = i6 (max y x) := by
  have e : i6 x < i6 y ↔ x < y := by rw [Int64.lt_iff_toInt_lt, to_i6 hx, to_i6 hy]
  by_cases c : x < y
  · rw [if_pos (e.mpr c)]
    have : max y x = y := by omega
    rw [this]
  · rw [if_neg (fun q => c (e.mp q))]
    have : max y x = x := by omega
    rw [this]
theorem m_top (h : Rep A E ls nl nc nd S D) {q : Rat} (e : D.FJ 547 70 = i6 q.num ∧ D.FJ 548 70 = i6 q.den) : S.FJ 547 (A 70) = i6 q.num ∧ S.FJ 548 (A 70) = i6 q.den := by
  rw [rep_FJ h 547 m_al, rep_FJ h 548 m_al]
  exact e
theorem top_of {q : Rat} : (setTop D q).FJ 547 70 = i6 q.num ∧ (setTop D q).FJ 548 70 = i6 q.den := ⟨top_num q, top_den q⟩
def TopQ (D : Dt) (q : Rat) : Prop := D.FJ 547 70 = i6 q.num ∧ D.FJ 548 70 = i6 q.den
/-- only what is computed has changed -/
def SamT (D D' : Dt) : Prop := D'.FI = D.FI ∧ D'.AI = D.AI ∧ D'.AJ = D.AJ
theorem samT_top (D : Dt) (q : Rat) : SamT D (setTop D q) := ⟨rfl, rfl, rfl⟩
theorem SamT.rf {D : Dt} : SamT D D := ⟨rfl, rfl, rfl⟩
theorem SamT.tr {D D' D'' : Dt} (h : SamT D D') (h' : SamT D' D'') : SamT D D'' := ⟨h'.1.trans h.1, h'.2.1.trans h.2.1, h'.2.2.trans h.2.2⟩
theorem SamT.M {X : Nat → Prop} {D D' : Dt} (h : SamT D D') : SamM X D D' := ⟨h.1, h.2.1, fun r _ => by rw [h.2.2]⟩
theorem t_result {Φ : Hp → Prop} {N Dn : Int} (h : Rep A E ls nl nc nd S D) (hN : Rg N) (hD : Rg Dn) (h0 : 0 < Dn) (k : ∀ S' D', Rep A E ls nl nc nd S' D' → SamT D D' → TopQ D' (Rat.divInt N Dn) → Φ S') : wX8_result S (A 70) (i6 N) (i6 Dn) Φ := p_result h hN hD h0 (fun S' h' => k S' _ h' (samT_top D _) top_of)
theorem t_sum {Φ : Hp → Prop} {M B1 B2 : Nat} {a c : Int} {b d : Nat} (h : Rep A E ls nl nc nd S D) (b1 : Bp M B1 a b) (b2 : Bp M B2 c d) (hM0 : 0 < M) (hM : M < 9223372036854775808) (hB : B1 + B2 < 9223372036854775808)
    (k : ∀ S' D', Rep A E ls nl nc nd S' D' → SamT D D' → TopQ D' (Rat.divInt a b + Rat.divInt c d) → Φ S') : wX8_sum S (A 70) (i6 a) (i6 b) (i6 c) (i6 d) Φ := p_sum h b1 b2 hM0 hM hB (fun S' h' => k S' _ h' (samT_top D _) top_of)
theorem t_product {Φ : Hp → Prop} {a c : Int} {b d : Nat} (h : Rep A E ls nl nc nd S D) (hb0 : 0 < b) (hd0 : 0 < d) (ha : Rg a) (hc : Rg c) (hac : Rg (a * c)) (hbd : Rg ((b : Int) * d))
    (k : ∀ S' D', Rep A E ls nl nc nd S' D' → SamT D D' → TopQ D' (Rat.divInt a b * Rat.divInt c d) → Φ S') : wX8_product S (A 70) (i6 a) (i6 b) (i6 c) (i6 d) Φ := p_product h hb0 hd0 ha hc hac hbd (fun S' h' => k S' _ h' (samT_top D _) top_of)
theorem p_mfollow {Φ : Hp → Prop} {ns k n : Nat} {lv : Nat → Nat} {eng brk : Nat → Bool} {P R : Nat → Rat} {mk : Nat → Int} {inp : Nat} {wy : Int} {tn : Nat → Rat} {mk' : Nat → Int} (h : Rep A E ls nl nc nd S D) (hM : LkM G nl D) (hG : GrOK ns nl G) (hL : Lev nl G lv) (hk : k < nl) (hdr : D.AI 79 (G k 3) = nI k)
    (hoff : D.AI 87 k = bI (!eng k)) (hbrk : D.AI 88 k = bI (brk k)) (hP : MR D 72 ns P) (hR : MR D 74 ns R) (hmk : D.AJ 93 k = i6 (mk k)) (hrm' : (mk k).natAbs ≤ 4000000000000000000)
    (hst : StepEq G nl (fun k => eng k && !brk k) P mk inp wy tn mk') (hRI : RI G nl (fun k => eng k && !brk k) P mk) (hn : n ≤ 24560) (hB : BdP G nl n P) (htb : ∀ s, Bd (pm G nl s) (qm G nl s) (tn s)) (hinp : G k 3 ≠ inp) (hR1 : R (G k 1) = tn (G k 1)) (hR2 : G k 0 = 112 → R (G k 2) = tn (G k 2))
    (kk : ∀ S' D', Rep A E ls nl nc nd S' D' → SamM (fun r => r = 93) D D' → (∀ j, D'.AJ 93 j = if j = k then i6 (mk' k) else D.AJ 93 j) → TopQ D' (tn (G k 3)) → Φ S') : wX8_follow S (A 70) (nI (G k 3)) Φ := by
  have hrm : Rg (mk k) := by
    unfold Rg
    omega
  have hG' := hG
  obtain ⟨hns, hnl, hg, huniq⟩ := hG'
  obtain ⟨hkk, hf, hs, ht⟩ := hg k hk
  obtain ⟨c0, c4, c5⟩ := kOK_lt hkk
  have e0 : ∀ n, n < 200 → ((nI (G k 0) = nI n) ↔ G k 0 = n) := fun n hn => nI_lit c0 hn
  obtain ⟨g1, g2, g3, g4, g5, g6⟩ := hM k hk
  have a79 := m_arr h 519 79 21 14
  have a82 := m_arr h 522 82 21 16
  have v79 : S.AI (A 79) (nI (G k 3)).toNatClampNeg = nI k := rd_I h (al_s (by decide)) (by omega) hdr
  have v82 : S.AI (A 82) (nI k).toNatClampNeg = nI (G k 1) := rd_I h (al_s (by decide)) (by omega) g2
  unfold wX8_follow wX8_follow_b0
  refine ⟨m_is h, A 79, a79.1, a79.2.1, by rw [a79.2.2]; exact in_nI (by omega) (by decide), A 82, a82.1, a82.2.1, ?_, ?_⟩
  · rw [v79, a82.2.2]
    exact in_nI (by omega) (by decide)
  rw [v79, v82]
  intro S8 e8 S9 e9
  obtain ⟨D9, h9, t9, q9⟩ : ∃ D9, Rep A E ls nl nc nd S9 D9 ∧ SamT D D9 ∧ TopQ D9 0 := by
    refine ⟨setTop D 0, ?_, samT_top D 0, top_of⟩
    rw [e9, e8]
    exact set_FJ (set_FJ h 547 0 m_al) 548 1 m_al
  have iA : ∀ {r i : Nat} {v : Int32}, D.AI r i = v → D9.AI r i = v := fun {r i v} e => by
    rw [t9.2.1]
    exact e
  have jA : ∀ {r i : Nat} {v : Int64}, D.AJ r i = v → D9.AJ r i = v := fun {r i v} e => by
    rw [t9.2.2]
    exact e
  have k16 : ∀ n, n = 16 → vp_in (nI k) n := fun n e => by
    rw [e]
    exact in_nI (by omega) (by decide)
  have f14 : ∀ n, n = 14 → vp_in (nI (G k 1)) n := fun n e => by
    rw [e]
    exact in_nI (by omega) (by decide)
  have a88 := m_arr h9 528 88 23 16
  have v88 : S9.AI (A 88) (nI k).toNatClampNeg = bI (brk k) := rd_I h9 (al_s (by decide)) (by omega) (iA hbrk)
  refine ⟨A 88, a88.1, a88.2.1, k16 _ a88.2.2, ?_⟩
  rw [v88]
  -- a link that doesn't act
  have rest : (eng k && !brk k) = false → Φ S9 := fun ha => by
    have e1 : tn (G k 3) = 0 := hst.2.1 _ hinp (fun k' hk' ha' e => by
      have := huniq k' k hk' hk e
      subst this
      exact absurd (ha.symm.trans ha') (by decide))
    have e2 : mk' k = mk k := hst.2.2.2 k (fun q => absurd (ha.symm.trans q.2) (by decide))
    refine kk S9 D9 h9 t9.M (fun j => ?_) ?_
    · rw [e2, t9.2.2]
      by_cases c : j = k
      · rw [if_pos c, c]
        exact hmk
      · rw [if_neg c]
    · rw [e1]
      exact q9
  cases hb : brk k
  · refine fi_p rfl ?_
    have a87 := m_arr h9 527 87 23 16
    have v87 : S9.AI (A 87) (nI k).toNatClampNeg = bI (!eng k) := rd_I h9 (al_s (by decide)) (by omega) (iA hoff)
    refine ⟨A 87, a87.1, a87.2.1, k16 _ a87.2.2, ?_⟩
    rw [v87]
    cases he : eng k
    · exact if_n (by decide) (rest (by rw [he]; rfl))
    refine if_p rfl ?_
    have ha : (eng k && !brk k) = true := by rw [he, hb]; rfl
    obtain ⟨s1, s2, s3⟩ := hst.2.2.1 k hk ha
    have ectr : ctr G k R P (mk k) = tn (G k 3) := by
      rw [s2]
      exact ctr_congr hkk hR1 hR2
    have emk : mk' k = mkn G k (P (G k 1) + R (G k 1)) (mk k) := by
      rw [s3, hR1]
    have hri : G k 0 = 114 → fl (G k 4 : Nat) (P (G k 1)) ≤ mk k := hRI k hk ha
    obtain ⟨M1, M2, M3⟩ := pm_lt hG (G k 1)
    have hRf : Bd (pm G nl (G k 1)) (qm G nl (G k 1)) (R (G k 1)) := by
      rw [hR1]
      exact htb _
    have qf := bd_bq M1 hRf
    have qP := bd_bq M1 (hB (G k 1))
    have hnq := qn_le M3 (show n ≤ 24600 by omega)
    have rf4 := bq_rg qf M1 M2 (by omega) (G k 4) (by omega)
    have rf5 := bq_rg qf M1 M2 (by omega) (G k 5) (by omega)
    have a85 := m_arr h9 525 85 21 16
    have a86 := m_arr h9 526 86 21 16
    have a81 := m_arr h9 521 81 20 16
    have v85 : S9.AI (A 85) (nI k).toNatClampNeg = nI (G k 4) := rd_I h9 (al_s (by decide)) (by omega) (iA g5)
    have v86 : S9.AI (A 86) (nI k).toNatClampNeg = nI (G k 5) := rd_I h9 (al_s (by decide)) (by omega) (iA g6)
    have v81 : S9.AI (A 81) (nI k).toNatClampNeg = nI (G k 0) := rd_I h9 (al_s (by decide)) (by omega) (iA g1)
    refine ⟨A 85, a85.1, a85.2.1, k16 _ a85.2.2, A 86, a86.1, a86.2.1, k16 _ a86.2.2, A 81, a81.1, a81.2.1, k16 _ a81.2.2, ?_⟩
    rw [v81, v85, v86, nI64 (by omega), nI64 (by omega)]
    have a74 := m_arr h9 514 74 22 14
    have a75 := m_arr h9 515 75 22 14
    have a72 := m_arr h9 512 72 22 14
    have a73 := m_arr h9 513 73 22 14
    have hRf' := hR (G k 1) hf
    have hPf' := hP (G k 1) hf
    have v74 : S9.AJ (A 74) (nI (G k 1)).toNatClampNeg = i6 (R (G k 1)).num := rd_J h9 (al_s (by decide)) (by omega) (jA hRf'.1)
    have v75 : S9.AJ (A 75) (nI (G k 1)).toNatClampNeg = i6 (R (G k 1)).den := rd_J h9 (al_s (by decide)) (by omega) (jA hRf'.2)
    have v72 : S9.AJ (A 72) (nI (G k 1)).toNatClampNeg = i6 (P (G k 1)).num := rd_J h9 (al_s (by decide)) (by omega) (jA hPf'.1)
    have v73 : S9.AJ (A 73) (nI (G k 1)).toNatClampNeg = i6 (P (G k 1)).den := rd_J h9 (al_s (by decide)) (by omega) (jA hPf'.2)
    -- the end of the kinds that keep their mark
    have fin : ∀ S' D' q, Rep A E ls nl nc nd S' D' → SamT D D' → TopQ D' q → q = tn (G k 3) → G k 0 ≠ 114 → Φ S' := fun S' D' q h' hs' hT hq h114 => by
      refine kk S' D' h' hs'.M (fun j => ?_) ?_
      · rw [hs'.2.2, emk, mkn_n h114]
        by_cases c : j = k
        · rw [if_pos c, c, hmk]
        · rw [if_neg c]
      · rw [← hq]
        exact hT
    by_cases d1 : G k 0 = 103
    · have b0 : 0 < G k 5 := by
        unfold kOK at hkk
        omega
      refine if_p ((e0 103 (by decide)).mpr d1) ⟨A 74, a74.1, a74.2.1, f14 _ a74.2.2, A 75, a75.1, a75.2.1, f14 _ a75.2.2, ?_⟩
      rw [v74, v75, i6_neg]
      refine t_product h9 (R (G k 1)).den_pos b0 (rg_abs (by omega) rf4.1) (by unfold Rg; omega) (rg_abs (by rw [Int.natAbs_mul, Int.natAbs_mul, Int.natAbs_neg]; exact Nat.le_refl _) rf4.2.2.2) rf5.2.2.1 (fun S34 D34 h34 t34 q34 => ?_)
      rw [q_prodn] at q34
      exact fin S34 D34 _ h34 (t9.tr t34) q34 (by rw [← ectr, ctr_g d1]) (by omega)
    refine if_n (fun z => d1 ((e0 103 (by decide)).mp z)) ?_
    by_cases d2 : G k 0 = 105
    · have b0 : 0 < G k 5 := by
        unfold kOK at hkk
        omega
      refine if_p ((e0 105 (by decide)).mpr d2) ⟨A 74, a74.1, a74.2.1, f14 _ a74.2.2, A 75, a75.1, a75.2.1, f14 _ a75.2.2, ?_⟩
      rw [v74, v75]
      refine t_product h9 (R (G k 1)).den_pos b0 rf4.1 (by unfold Rg; omega) rf4.2.2.2 rf5.2.2.1 (fun S34 D34 h34 t34 q34 => ?_)
      rw [q_prod] at q34
      exact fin S34 D34 _ h34 (t9.tr t34) q34 (by rw [← ectr, ctr_i d2]) (by omega)
    refine if_n (fun z => d2 ((e0 105 (by decide)).mp z)) ?_
    by_cases d3 : G k 0 = 107
    · refine if_p ((e0 107 (by decide)).mpr d3) ⟨A 74, a74.1, a74.2.1, f14 _ a74.2.2, A 75, a75.1, a75.2.1, f14 _ a75.2.2, ?_⟩
      rw [v74, v75]
      refine t_result h9 rf4.1 rf4.2.1 (den_pos _) (fun S34 D34 h34 t34 q34 => ?_)
      rw [q_self] at q34
      exact fin S34 D34 _ h34 (t9.tr t34) q34 (by rw [← ectr, ctr_k d3]) (by omega)
    refine if_n (fun z => d3 ((e0 107 (by decide)).mp z)) ?_
    by_cases d4 : G k 0 = 114
    · have a0 : 0 < G k 4 := by
        unfold kOK at hkk
        omega
      refine if_p ((e0 114 (by decide)).mpr d4) ⟨A 72, a72.1, a72.2.1, f14 _ a72.2.2, A 73, a73.1, a73.2.1, f14 _ a73.2.2, A 74, a74.1, a74.2.1, f14 _ a74.2.2, A 75, a75.1, a75.2.1, f14 _ a75.2.2, ?_⟩
      rw [v72, v73, v74, v75]
      refine t_sum h9 qP qf M1 (by omega) (by omega) (fun S64 D64 h64 t64 q64 => ⟨m_is h64, ?_⟩)
      rw [q_self, q_self] at q64
      obtain ⟨t1, t2⟩ := m_top h64 q64
      have bV := bq_rg (bd_bq M1 (bd_add (hB (G k 1)) hRf)) M1 M2 (by omega) (G k 4) (by omega)
      rw [t1, t2]
      refine p_floor (t := (G k 4 : Int)) (by rw [Int.mul_comm]; exact bV.2.2.2) bV.2.1 ⟨m_is h64, ?_⟩
      generalize hz : fl (G k 4 : Nat) (P (G k 1) + R (G k 1)) = z at *
      have hzr : Rg z := by
        rw [← hz]
        unfold fl
        have h1 := Int.natAbs_ediv_le_natAbs ((G k 4 : Nat) * (P (G k 1) + R (G k 1)).num) ((P (G k 1) + R (G k 1)).den : Int)
        refine rg_abs h1 ?_
        rw [Int.mul_comm]
        exact bV.2.2.2
      have hzm' : Rg (z - mk k) := by
        obtain ⟨w0, w1, w2, w3⟩ := bd_bq M1 (bd_add (hB (G k 1)) hRf)
        have w4 : 0 < w1 := Nat.pos_of_ne_zero (fun e => by rw [e, Nat.mul_zero] at w2; omega)
        have w5 : (P (G k 1) + R (G k 1)).num.natAbs ≤ (P (G k 1) + R (G k 1)).num.natAbs * w1 := Nat.le_mul_of_pos_right _ w4
        have w6 : z.natAbs ≤ 30 * (P (G k 1) + R (G k 1)).num.natAbs := by
          rw [← hz]
          unfold fl
          have h1 := Int.natAbs_ediv_le_natAbs ((G k 4 : Nat) * (P (G k 1) + R (G k 1)).num) ((P (G k 1) + R (G k 1)).den : Int)
          rw [Int.natAbs_mul, Int.natAbs_natCast] at h1
          exact Nat.le_trans h1 (Nat.mul_le_mul_right _ c4)
        unfold Rg
        omega
      have a93 := m_arr h64 533 93 22 16
      have v93 : S64.AJ (A 93) (nI k).toNatClampNeg = i6 (mk k) := rd_J h64 (al_s (by decide)) (by omega) (by rw [t64.2.2]; exact jA hmk)
      refine ⟨A 93, a93.1, a93.2.1, k16 _ a93.2.2, ?_⟩
      rw [v93, i6_sub, i6_max0 hzm']
      have hmz : Rg (max 0 (z - mk k)) := by
        unfold Rg at *
        omega
      refine t_result h64 hmz (by unfold Rg; omega) (by omega) (fun S72 D72 h72 t72 q72 => ⟨m_is h72, ?_⟩)
      have b93 := m_arr h72 533 93 22 16
      have w93 : S72.AJ (A 93) (nI k).toNatClampNeg = i6 (mk k) := rd_J h72 (al_s (by decide)) (by omega) (by rw [t72.2.2, t64.2.2]; exact jA hmk)
      refine ⟨A 93, b93.1, A 93, b93.1, b93.2.1, k16 _ b93.2.2, b93.2.1, k16 _ b93.2.2, fun S80 e80 => ?_⟩
      rw [w93, i6_max hzr hrm, cl_nI (by omega)] at e80
      have h80 := set_AJ h72 (r := 93) k (i6 (max (mk k) z)) (al_s (by decide))
      rw [← e80] at h80
      have t80 := (t9.tr t64).tr t72
      refine kk S80 _ h80 (t80.M.tr (samM_set rfl)) (fun j => ?_) ?_
      · rw [emk]
        unfold mkn
        rw [if_pos d4, hz]
        by_cases c : j = k
        · rw [if_pos c, c]
          exact dtAJ_s
        · rw [if_neg c, dtAJ_n (fun q => c q.2), t80.2.2]
      · have e1 : Rat.divInt (max 0 (z - mk k)) (G k 4 : Nat) = tn (G k 3) := by
          rw [← ectr, ctr_r d4, hz, Rat.divInt_eq_div]
          rfl
        rw [← e1]
        exact q72
    refine if_n (fun z => d4 ((e0 114 (by decide)).mp z)) ?_
    by_cases d5 : G k 0 = 118
    · have a0 : 0 < G k 4 := by
        unfold kOK at hkk
        omega
      refine if_p ((e0 118 (by decide)).mpr d5) ⟨A 72, a72.1, a72.2.1, f14 _ a72.2.2, A 73, a73.1, a73.2.1, f14 _ a73.2.2, A 74, a74.1, a74.2.1, f14 _ a74.2.2, A 75, a75.1, a75.2.1, f14 _ a75.2.2, ?_⟩
      rw [v72, v73, v74, v75]
      refine t_sum h9 qP qf M1 (by omega) (by omega) (fun S94 D94 h94 t94 q94 => ⟨m_is h94, ?_⟩)
      rw [q_self, q_self] at q94
      obtain ⟨t1, t2⟩ := m_top h94 q94
      have bV := bq_rg (bd_bq M1 (bd_add (hB (G k 1)) hRf)) M1 M2 (by omega) 1 (by omega)
      have bP := bq_rg qP M1 M2 (by omega) 1 (by omega)
      rw [t1, t2, i6_1]
      refine p_floor (t := (1 : Int)) (by rw [Int.mul_comm]; exact bV.2.2.2) bV.2.1 ⟨m_is h94, ?_⟩
      have b72 := m_arr h94 512 72 22 14
      have b73 := m_arr h94 513 73 22 14
      have w72 : S94.AJ (A 72) (nI (G k 1)).toNatClampNeg = i6 (P (G k 1)).num := rd_J h94 (al_s (by decide)) (by omega) (by rw [t94.2.2]; exact jA hPf'.1)
      have w73 : S94.AJ (A 73) (nI (G k 1)).toNatClampNeg = i6 (P (G k 1)).den := rd_J h94 (al_s (by decide)) (by omega) (by rw [t94.2.2]; exact jA hPf'.2)
      refine ⟨A 72, b72.1, b72.2.1, f14 _ b72.2.2, A 73, b73.1, b73.2.1, f14 _ b73.2.2, ?_⟩
      rw [w72, w73]
      refine p_floor (t := (1 : Int)) (by rw [Int.mul_comm]; exact bP.2.2.2) bP.2.1 ⟨m_is h94, ?_⟩
      rw [i6_sub]
      have hz : Rg (fl 1 (P (G k 1) + R (G k 1)) - fl 1 (P (G k 1))) := by
        have fd := fl_diff (a := 1) (q := P (G k 1)) hRf
        have e1 : ((1 : Nat) : Int) = 1 := rfl
        rw [e1] at fd
        have : (fl 1 (P (G k 1) + R (G k 1)) - fl 1 (P (G k 1))).natAbs ≤ (fl 1 (P (G k 1) + R (G k 1)) - fl 1 (P (G k 1))).natAbs * pm G nl (G k 1) := Nat.le_mul_of_pos_right _ M1
        unfold Rg
        omega
      refine t_result h94 hz (by unfold Rg; omega) (by omega) (fun S107 D107 h107 t107 q107 => ?_)
      refine fin S107 D107 _ h107 ((t9.tr t94).tr t107) q107 ?_ (by omega)
      rw [← ectr, ctr_v d5, Rat.divInt_eq_div]
      rfl
    refine if_n (fun z => d5 ((e0 118 (by decide)).mp z)) ⟨A 74, a74.1, a74.2.1, f14 _ a74.2.2, A 75, a75.1, a75.2.1, f14 _ a75.2.2, ?_⟩
    have d6 : G k 0 = 112 := by
      unfold kOK at hkk
      omega
    have b0 : 0 < G k 4 + G k 5 := by
      unfold kOK at hkk
      omega
    have hs' := hs d6
    have hsec : sec G k = nI (G k 2) := if_pos d6
    have s14 : ∀ n, n = 14 → vp_in (nI (G k 2)) n := fun n e => by
      rw [e]
      exact in_nI (by omega) (by decide)
    obtain ⟨N1, N2, N3⟩ := pm_lt hG (G k 2)
    have hRs : Bd (pm G nl (G k 2)) (qm G nl (G k 2)) (R (G k 2)) := by
      rw [hR2 d6]
      exact htb _
    have qs := bd_bq N1 hRs
    have rs5 := bq_rg qs N1 N2 (by omega) (G k 5) (by omega)
    have rsab := bq_rg qs N1 N2 (by omega) (G k 4 + G k 5) (by omega)
    have rfab := bq_rg qf M1 M2 (by omega) (G k 4 + G k 5) (by omega)
    have hRs' := hR (G k 2) hs'
    rw [v74, v75, i6_add, ← Int.natCast_add]
    refine t_product h9 (R (G k 1)).den_pos b0 rf4.1 (by unfold Rg; omega) rf4.2.2.2 rfab.2.2.1 (fun S115 D115 h115 t115 q115 => ⟨m_is h115, ?_⟩)
    rw [q_prod] at q115
    have b74 := m_arr h115 514 74 22 14
    have b75 := m_arr h115 515 75 22 14
    have b83 := m_arr h115 523 83 21 16
    have w83 : S115.AI (A 83) (nI k).toNatClampNeg = nI (G k 2) := rd_I h115 (al_s (by decide)) (by omega) (by rw [t115.2.1]; exact iA (g3.trans hsec))
    have w74 : S115.AJ (A 74) (nI (G k 2)).toNatClampNeg = i6 (R (G k 2)).num := rd_J h115 (al_s (by decide)) (by omega) (by rw [t115.2.2]; exact jA hRs'.1)
    have w75 : S115.AJ (A 75) (nI (G k 2)).toNatClampNeg = i6 (R (G k 2)).den := rd_J h115 (al_s (by decide)) (by omega) (by rw [t115.2.2]; exact jA hRs'.2)
    refine ⟨A 74, b74.1, A 83, b83.1, b83.2.1, k16 _ b83.2.2, b74.2.1, by rw [w83]; exact s14 _ b74.2.2, A 75, b75.1, A 83, b83.1, b83.2.1, k16 _ b83.2.2, b75.2.1, by rw [w83]; exact s14 _ b75.2.2, ?_⟩
    rw [w83, w74, w75]
    refine t_product h115 (R (G k 2)).den_pos b0 rs5.1 (by unfold Rg; omega) rs5.2.2.2 rsab.2.2.1 (fun S129 D129 h129 t129 q129 => ⟨m_is h129, ?_⟩)
    rw [q_prod] at q129
    obtain ⟨t1, t2⟩ := m_top h115 q115
    obtain ⟨u1, u2⟩ := m_top h129 q129
    rw [t1, t2, u1, u2]
    obtain ⟨r1, r2, r3, r4, r5⟩ := src_le hG hL hk
    obtain ⟨r6, r7⟩ := r5 d6
    have x1 := bd_scale (dQ G nl 3 (G k 2)).1 (bd_div b0 (bd_mul (G k 4) hRf))
    have x2 := bd_scale (dQ G nl 3 (G k 1)).1 (bd_div b0 (bd_mul (G k 5) hRs))
    unfold pm qm at x1 x2
    have em1 : 24 * (dQ G nl 3 (G k 1)).1 * (G k 4 + G k 5) * (dQ G nl 3 (G k 2)).1 = 24 * ((dQ G nl 3 (G k 1)).1 * (dQ G nl 3 (G k 2)).1) * (G k 4 + G k 5) := by ac_rfl
    have em2 : 24 * (dQ G nl 3 (G k 2)).1 * (G k 4 + G k 5) * (dQ G nl 3 (G k 1)).1 = 24 * ((dQ G nl 3 (G k 1)).1 * (dQ G nl 3 (G k 2)).1) * (G k 4 + G k 5) := by ac_rfl
    rw [em1] at x1
    rw [em2] at x2
    have l1 : (dQ G nl 3 (G k 1)).1 * (dQ G nl 3 (G k 2)).1 ≤ 216000 * 216000 := Nat.mul_le_mul r2 r6
    have l0 : 0 < (dQ G nl 3 (G k 1)).1 * (dQ G nl 3 (G k 2)).1 := Nat.mul_pos r1 r4
    have l2 : (dQ G nl 3 (G k 1)).2 * G k 4 * (dQ G nl 3 (G k 2)).1 ≤ 216000 * 30 * 216000 := Nat.mul_le_mul (Nat.mul_le_mul r3 c4) r6
    have l3 : (dQ G nl 3 (G k 2)).2 * G k 5 * (dQ G nl 3 (G k 1)).1 ≤ 216000 * 30 * 216000 := Nat.mul_le_mul (Nat.mul_le_mul r7 c5) r2
    have l4 : 24 * ((dQ G nl 3 (G k 1)).1 * (dQ G nl 3 (G k 2)).1) * (G k 4 + G k 5) ≤ 24 * (216000 * 216000) * 60 := Nat.mul_le_mul (Nat.mul_le_mul_left _ l1) (by omega)
    have l5 : 0 < 24 * ((dQ G nl 3 (G k 1)).1 * (dQ G nl 3 (G k 2)).1) * (G k 4 + G k 5) := Nat.mul_pos (by omega) b0
    refine t_sum h129 (bd_bq l5 x1) (bd_bq l5 x2) l5 (by omega) (by omega) (fun S131 D131 h131 t131 q131 => ?_)
    rw [q_self, q_self] at q131
    refine fin S131 D131 _ h131 (((t9.tr t115).tr t129).tr t131) q131 ?_ (by omega)
    rw [← ectr, ctr_p d6]
  · exact fi_n (by decide) (rest (by rw [hb]; cases eng k <;> rfl))
end MF9
