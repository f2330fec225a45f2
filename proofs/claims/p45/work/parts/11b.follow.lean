/-! A STEP OF THE CLASS -/
def XM (m r : Nat) : Prop := (34 + 6 * m ≤ r ∧ r < 40 + 6 * m) ∨ r = 60 + m
theorem pm_lt {ns nl : Nat} {G : Nat → Nat → Nat} (hG : GrOK ns nl G) (s : Nat) : 0 < pm G nl s ∧ pm G nl s ≤ 67184640000000 ∧ qm G nl s ≤ 2799360000000 := by
  obtain ⟨h1, h2, h3, h4⟩ := dQ_pos hG 3 s
  rw [bn_3] at h3 h4
  unfold pm qm
  omega
theorem qn_le {q n : Nat} (hq : q ≤ 2799360000000) (hn : n ≤ 24600) : n * q ≤ 68864256000000000 := Nat.mul_le_mul hn hq
theorem bq_rg {M B : Nat} {q : Rat} (h : Bq M B q) (hM0 : 0 < M) (hM : M ≤ 67184640000000) (hB : B ≤ 100000000000000000) (t : Nat) (ht : t ≤ 60) : Rg q.num ∧ Rg (q.den : Int) ∧ Rg ((q.den : Int) * t) ∧ Rg (q.num * t) := by
  obtain ⟨h0, m, h1, h2⟩ := h
  have hm : 0 < m := Nat.pos_of_ne_zero (fun e => by rw [e, Nat.mul_zero] at h1; omega)
  have h3 : q.num.natAbs ≤ q.num.natAbs * m := Nat.le_mul_of_pos_right _ hm
  have h4 : q.den ≤ q.den * m := Nat.le_mul_of_pos_right _ hm
  have h5 : q.den * t ≤ q.den * 60 := Nat.mul_le_mul_left _ ht
  have h6 : q.num.natAbs * t ≤ q.num.natAbs * 60 := Nat.mul_le_mul_left _ ht
  have h7 : (q.num * (t : Int)).natAbs = q.num.natAbs * t := by rw [Int.natAbs_mul, Int.natAbs_natCast]
  have h8 : ((q.den : Int) * t) = ((q.den * t : Nat) : Int) := by rw [Int.natCast_mul]
  rw [h8]
  generalize q.num * (t : Int) = Z at *
  unfold Rg
  omega
theorem num0 {q : Rat} (hr : Rg q.num) : i6 q.num = 0 ↔ q = 0 := by
  rw [← Rat.num_eq_zero]
  constructor
  · intro h
    exact i6_inj hr rg_0 h
  · intro h
    rw [h]
    rfl
theorem mkn_n {G : Nat → Nat → Nat} {k : Nat} {x : Rat} {m : Int} (h : G k 0 ≠ 114) : mkn G k x m = m := if_neg h
theorem ctr_zero {G : Nat → Nat → Nat} {k : Nat} {tn P : Nat → Rat} {m : Int} (hk : kOK G k) (h1 : tn (G k 1) = 0) (h2 : G k 0 = 112 → tn (G k 2) = 0) (hm : G k 0 = 114 → fl (G k 4 : Nat) (P (G k 1)) ≤ m) : ctr G k tn P m = 0 ∧ mkn G k (P (G k 1) + tn (G k 1)) m = m := by
  refine ⟨?_, ?_⟩
  · have hc : G k 0 = 103 ∨ G k 0 = 105 ∨ G k 0 = 107 ∨ G k 0 = 118 ∨ G k 0 = 114 ∨ G k 0 = 112 := by
      unfold kOK at hk
      omega
    rcases hc with c | c | c | c | c | c
    · rw [ctr_g c, h1, Rat.zero_mul, Rat.div_def, Rat.zero_mul]
      rfl
    · rw [ctr_i c, h1, Rat.zero_mul, Rat.div_def, Rat.zero_mul]
    · rw [ctr_k c, h1]
    · rw [ctr_v c, h1, Rat.add_zero, Int.sub_self, Rat.div_def, Rat.intCast_zero, Rat.zero_mul]
    · have := hm c
      have e : max 0 (fl (G k 4 : Nat) (P (G k 1)) - m) = 0 := by omega
      rw [ctr_r c, h1, Rat.add_zero, e, Rat.div_def, Rat.intCast_zero, Rat.zero_mul]
    · rw [ctr_p c, h1, h2 c, Rat.zero_mul, Rat.zero_mul, Rat.div_def, Rat.zero_mul, Rat.add_zero]
  · unfold mkn
    rw [h1, Rat.add_zero]
    by_cases c5 : G k 0 = 114
    · have := hm c5
      rw [if_pos c5]
      omega
    · rw [if_neg c5]
theorem src_le {ns nl k : Nat} {G : Nat → Nat → Nat} {lv : Nat → Nat} (hG : GrOK ns nl G) (hL : Lev nl G lv) (hk : k < nl) : 0 < (dQ G nl 3 (G k 1)).1 ∧ (dQ G nl 3 (G k 1)).1 ≤ 216000 ∧ (dQ G nl 3 (G k 1)).2 ≤ 216000 ∧ 0 < (dQ G nl 3 (G k 2)).1 ∧ (G k 0 = 112 → (dQ G nl 3 (G k 2)).1 ≤ 216000 ∧ (dQ G nl 3 (G k 2)).2 ≤ 216000) := by
  have h3 := hL.2 (G k 3)
  have l1 := hL.1 k (G k 1) hk (Or.inl rfl)
  have b2 : Bn 2 = 216000 := by decide
  have w1 := dQ_pos hG 3 (G k 1)
  have w2 := dQ_pos hG 3 (G k 2)
  have v1 := dQ_pos hG 2 (G k 1)
  rw [dQ_step hG hL 2 (G k 1) (by omega), b2] at v1
  refine ⟨w1.1, v1.2.2.1, v1.2.2.2, w2.1, fun hp => ?_⟩
  have l2 := hL.1 k (G k 2) hk (Or.inr ⟨hp, rfl⟩)
  have v2 := dQ_pos hG 2 (G k 2)
  rw [dQ_step hG hL 2 (G k 2) (by omega), b2] at v2
  exact ⟨v2.2.2.1, v2.2.2.2⟩
theorem cry_ctr {G : Nat → Nat → Nat} {k : Nat} {T P : Nat → Rat} {m : Int} (_hk : kOK G k) (h : G k 0 = 103 ∨ G k 0 = 105 ∨ G k 0 = 107 ∨ G k 0 = 112) : cry G k (ovz G k) T = ctr G k T P m := by
  have e1 : ((1 : Nat) : Rat) = 1 := rfl
  rcases h with h | h | h | h
  · have o : ovz G k = -(G k 4 : Int) := if_pos h
    have u : unz G k = G k 5 := if_pos (Or.inl h)
    have n2 : ¬ G k 0 = 112 := by omega
    unfold cry
    rw [ctr_g h, o, u, if_neg n2, Rat.add_zero, Rat.intCast_neg, Rat.mul_neg, Rat.div_def, Rat.neg_mul]
    rfl
  · have o : ovz G k = (G k 4 : Int) := by
      unfold ovz
      rw [if_neg (show ¬ G k 0 = 103 by omega), if_pos (Or.inl h)]
    have u : unz G k = G k 5 := if_pos (Or.inr h)
    have n2 : ¬ G k 0 = 112 := by omega
    unfold cry
    rw [ctr_i h, o, u, if_neg n2, Rat.add_zero]
    rfl
  · have o : ovz G k = 1 := by
      unfold ovz
      rw [if_neg (show ¬ G k 0 = 103 by omega), if_neg (show ¬ (G k 0 = 105 ∨ G k 0 = 112) by omega)]
    have u : unz G k = 1 := by
      unfold unz
      rw [if_neg (show ¬ (G k 0 = 103 ∨ G k 0 = 105) by omega), if_neg (show ¬ G k 0 = 112 by omega), if_neg (show ¬ G k 0 = 118 by omega)]
    have n2 : ¬ G k 0 = 112 := by omega
    unfold cry
    rw [ctr_k h, o, u, if_neg n2, Rat.add_zero, Rat.intCast_one, Rat.mul_one, e1]
    grind
  · have o : ovz G k = (G k 4 : Int) := by
      unfold ovz
      rw [if_neg (show ¬ G k 0 = 103 by omega), if_pos (Or.inr h)]
    have u : unz G k = G k 4 + G k 5 := by
      unfold unz
      rw [if_neg (show ¬ (G k 0 = 103 ∨ G k 0 = 105) by omega), if_pos h]
    unfold cry
    rw [ctr_p h, o, u, if_pos h]
    rfl
section FO9
variable {A E : Nat → Nat} {ls : Nat → List Nat} {nl nc nd : Nat} {S : Hp} {D : Dt} {G : Nat → Nat → Nat}
/-- the places follow what was turned -/
theorem p_f119 {Φ : Hp → Prop} {ns k m M B1 B2 : Nat} {V T : Nat → Rat} (h : Rep A E ls nl nc nd S D) (hm : m < 3) (hC : LkC G nl D) (hG : GrOK ns nl G) (hk : k < nl) (hV : RowV D (2 + 3 * m) 14 V) (hT : RowV D (4 + 3 * m) 14 T)
    (b1 : Bq M B1 (V (G k 3))) (b2 : Bq M B2 (T (G k 3))) (hM0 : 0 < M) (hM : M < 9223372036854775808) (hB : B1 + B2 < 9223372036854775808)
    (kk : ∀ S', Rep A E ls nl nc nd S' (putQ D (2 + 3 * m) (G k 3) (V (G k 3) + T (G k 3))) → Φ S') : wX6_follow_b119 (A (20 + m)) (A (400 + k)) Φ S := by
  obtain ⟨m1, m2, m3, m4, m5, m6, m7, m8, m9, m10⟩ := mot_ h hm
  obtain ⟨hns, hnl, hg, -⟩ := hG
  obtain ⟨hkk, hf, hs, ht⟩ := hg k hk
  have lk := lkS_of h hC hk (by omega)
  have hr1 : rn (2 + 3 * m) = 14 := if_neg (by omega)
  have hr2 : rn (4 + 3 * m) = 14 := if_neg (by omega)
  have p1 : 2 + 3 * m < 11 := by omega
  have p2 : 4 + 3 * m < 11 := by omega
  unfold wX6_follow_b119
  refine ⟨m1, _, m2, lk.1, _, m4, (row_ h p2).1, ?_⟩
  rw [lk.2.2.2.2.2.1]
  refine p_overAt h p2 (by omega) ⟨m1, _, m4, lk.1, (row_ h p2).1, ?_⟩
  rw [lk.2.2.2.2.2.1]
  refine p_underAt h p2 (by omega) ⟨(row_ h p1).1, ?_⟩
  rw [(hT _ (by omega)).1, (hT _ (by omega)).2]
  refine p_add h p1 (by omega) (hV _ (by omega)) b1 b2 hM0 hM hB (fun S14 h14 => kk S14 ?_)
  rw [q_self] at h14
  exact h14
theorem p_follow {Φ : Hp → Prop} {ns k m n : Nat} {lv : Nat → Nat} {act : Nat → Bool} {P T : Nat → Rat} {mk : Nat → Int} {inp : Nat} {wy : Int} {tn : Nat → Rat} {mk' : Nat → Int} (h : Rep A E ls nl nc nd S D) (hm : m < 3) (hC : LkC G nl D) (hG : GrOK ns nl G) (hL : Lev nl G lv) (hk : k < nl)
    (hP : RowV D (3 + 3 * m) 14 P) (hT : RowV D (4 + 3 * m) 14 T) (hV : RowV D (2 + 3 * m) 14 (fun s => P s + T s)) (hmk : D.AJ (60 + m) k = i6 (mk k)) (hrm' : act k = true → Rg (mk k)) (hact : D.AI (63 + m) k = bI (act k))
    (hst : StepEq G nl act P mk inp wy tn mk') (hR : RI G nl act P mk) (hn : n ≤ 24560) (hB : BdP G nl n P) (htb : ∀ s, Bd (pm G nl s) (qm G nl s) (tn s)) (hT0' : act k = true → T (G k 3) = 0) (hT1 : act k = true → T (G k 1) = tn (G k 1)) (hT2 : act k = true → G k 0 = 112 → T (G k 2) = tn (G k 2)) (hTb : ∀ s, Bd (pm G nl s) (qm G nl s) (T s))
    (kk0 : act k = false → Φ S) (kk1 : ∀ S' D', act k = true → Rep A E ls nl nc nd S' D' → SamJ (XM m) D D' → RowV D' (3 + 3 * m) 14 P → RowV D' (4 + 3 * m) 14 (vup T (G k 3) (tn (G k 3))) → RowV D' (2 + 3 * m) 14 (fun s => P s + vup T (G k 3) (tn (G k 3)) s) → (∀ j, D'.AJ (60 + m) j = if j = k then i6 (mk' k) else D.AJ (60 + m) j) → Φ S') : wX6_follow S (A (20 + m)) (A (400 + k)) Φ := by
  obtain ⟨m1, m2, m3, m4, m5, m6, m7, m8, m9, m10⟩ := mot_ h hm
  have hG' := hG
  obtain ⟨hns, hnl, hg, -⟩ := hG'
  obtain ⟨hkk, hf, hs, ht⟩ := hg k hk
  obtain ⟨c0, c4, c5⟩ := kOK_lt hkk
  have lk := lkS_of h hC hk (by omega)
  have hr1 : rn (2 + 3 * m) = 14 := if_neg (by omega)
  have hr3 : rn (3 + 3 * m) = 14 := if_neg (by omega)
  have hr2 : rn (4 + 3 * m) = 14 := if_neg (by omega)
  have p1 : 2 + 3 * m < 11 := by omega
  have p3 : 3 + 3 * m < 11 := by omega
  have p2 : 4 + 3 * m < 11 := by omega
  have hft : G k 1 ≠ G k 3 := fun e => by
    have := hL.1 k (G k 1) hk (Or.inl rfl)
    rw [e] at this
    omega
  obtain ⟨M1, M2, M3⟩ := pm_lt hG (G k 1)
  obtain ⟨N1, N2, N3⟩ := pm_lt hG (G k 3)
  have qf := bd_bq M1 (hTb (G k 1))
  have rf := bq_rg qf M1 M2 (by omega) 1 (by omega)
  unfold wX6_follow wX6_follow_b0
  refine ⟨m1, p_doesActM h hm lk (by omega) (fun e => if_p rfl (kk0 ?_)) (fun e => if_n (by decide) ⟨m1, _, m4, lk.1, (row_ h p2).1, ?_⟩)⟩
  · rw [hact] at e
    cases hb : act k
    · rfl
    · rw [hb] at e
      exact absurd e (by decide)
  have ha : act k = true := by
    rw [hact] at e
    cases hb : act k
    · rw [hb] at e
      exact absurd rfl e
    · rfl
  have hT0 := hT0' ha
  have hrm := hrm' ha
  obtain ⟨s1, s2, s3⟩ := hst.2.2.1 k hk ha
  have t1 := hT1 ha
  have ectr : ctr G k T P (mk k) = tn (G k 3) := by
    rw [s2]
    exact ctr_congr hkk t1 (hT2 ha)
  have emk : mk' k = mkn G k (P (G k 1) + T (G k 1)) (mk k) := by
    rw [s3, t1]
  have hri : G k 0 = 114 → fl (G k 4 : Nat) (P (G k 1)) ≤ mk k := hR k hk ha
  have e0 : ∀ n, n < 200 → ((nI (G k 0) = nI n) ↔ G k 0 = n) := fun n hn => nI_lit c0 hn
  -- what stands behind where the driven shaft has got its share
  have fin : ∀ S' D', Rep A E ls nl nc nd S' D' → SamJ (XM m) D D' → RowV D' (3 + 3 * m) 14 P → RowV D' (4 + 3 * m) 14 (vup T (G k 3) (tn (G k 3))) → RowV D' (2 + 3 * m) 14 (fun s => P s + T s) → (∀ j, D'.AJ (60 + m) j = if j = k then i6 (mk' k) else D.AJ (60 + m) j) → wX6_follow_b119 (A (20 + m)) (A (400 + k)) Φ S' := by
    intro S' D' h' hsm hP' hT' hV' hM'
    have b1 := bd_bq N1 (hB (G k 3))
    have b2 := bd_bq N1 (htb (G k 3))
    have hq := qn_le N3 (show n ≤ 24600 by omega)
    have eT : vup T (G k 3) (tn (G k 3)) (G k 3) = tn (G k 3) := if_pos rfl
    refine p_f119 h' hm (lkC_sam hC hsm.1) hG hk hV' hT' (M := pm G nl (G k 3)) (B1 := n * qm G nl (G k 3)) (B2 := qm G nl (G k 3)) (by rw [hT0, Rat.add_zero]; exact b1) (by rw [eT]; exact b2) N1 (by omega) (by omega) (fun S14 h14 => kk1 S14 _ ha h14 ?_ ?_ ?_ ?_ ?_)
    · exact hsm.tr (samJ_put (by unfold XM; omega) (by unfold XM; omega))
    · exact rowV_put2 hP' (by omega)
    · exact rowV_put2 hT' (by omega)
    · rw [eT, hT0, Rat.add_zero]
      refine rowV_congr (rowV_put hV') (fun i hi => ?_)
      unfold vup
      by_cases c : i = G k 3
      · rw [if_pos c, if_pos c, c]
      · rw [if_neg c, if_neg c]
    · intro j
      rw [putQ_AJ (by omega) (by omega)]
      exact hM' j
  have go : wX6_follow_b37 (A (20 + m)) (A (400 + k)) Φ S := by
    unfold wX6_follow_b37
    rw [lk.2.2.1]
    refine ⟨lk.1, ?_⟩
    by_cases d1 : G k 0 = 118
    · refine fi_p ((e0 118 (by decide)).mpr d1) ⟨m1, _, m4, _, m2, (row_ h p1).1, ?_⟩
      have a0 : 0 < G k 4 := by
        unfold kOK at hkk
        omega
      have bV := bq_rg (bd_bq M1 (bd_add (hB (G k 1)) (hTb (G k 1)))) M1 M2 (by have := qn_le M3 (show n ≤ 24600 by omega); omega) 1 (by omega)
      have bP := bq_rg (bd_bq M1 (hB (G k 1))) M1 M2 (by have := qn_le M3 (show n ≤ 24600 by omega); omega) 1 (by omega)
      rw [lk.2.2.2.1]
      have e1 : (1 : Int64) = i6 ((1 : Nat) : Int) := rfl
      rw [e1]
      refine p_wholeTimes h p1 (by omega) (hV _ (by omega)) bV.1 bV.2.2.1 (by decide) ⟨m1, _, m3, lk.1, (row_ h p3).1, ?_⟩
      rw [lk.2.2.2.1]
      refine p_wholeTimes h p3 (by omega) (hP _ (by omega)) bP.1 bP.2.2.1 (by decide) ⟨lk.1, (row_ h p2).1, ?_⟩
      rw [lk.2.2.2.2.2.1, lk.2.2.2.2.2.2.1, nI64 (by omega), i6_sub]
      have hz : Rg (fl ((1 : Nat) : Int) (P (G k 1) + T (G k 1)) - fl ((1 : Nat) : Int) (P (G k 1))) := by
        have fd := fl_diff (a := 1) (q := P (G k 1)) (hTb (G k 1))
        have : (fl ((1 : Nat) : Int) (P (G k 1) + T (G k 1)) - fl ((1 : Nat) : Int) (P (G k 1))).natAbs ≤ (fl ((1 : Nat) : Int) (P (G k 1) + T (G k 1)) - fl ((1 : Nat) : Int) (P (G k 1))).natAbs * pm G nl (G k 1) := Nat.le_mul_of_pos_right _ M1
        unfold Rg
        omega
      refine p_put h p2 (by omega) hz (by unfold Rg; omega) a0 (fun S25 h25 => ?_)
      have ev : Rat.divInt (fl ((1 : Nat) : Int) (P (G k 1) + T (G k 1)) - fl ((1 : Nat) : Int) (P (G k 1))) (G k 4 : Nat) = tn (G k 3) := by
        rw [← ectr, Rat.divInt_eq_div]
        rw [ctr_v d1]
        rfl
      rw [ev] at h25
      refine fin S25 _ h25 (samJ_put (by unfold XM; omega) (by unfold XM; omega)) (rowV_put2 hP (by omega)) (rowV_put hT) (rowV_put2 hV (by omega)) (fun j => ?_)
      rw [putQ_AJ (by omega) (by omega), emk]
      rw [mkn_n (show G k 0 ≠ 114 by omega)]
      by_cases cj : j = k
      · rw [if_pos cj, cj, hmk]
      · rw [if_neg cj]
    · refine fi_n (fun z => d1 ((e0 118 (by decide)).mp z)) ?_
      by_cases d2 : G k 0 = 114
      · refine fi_p ((e0 114 (by decide)).mpr d2) ⟨m1, ?_⟩
        have a0 : 0 < G k 4 := by
          unfold kOK at hkk
          omega
        have bV := bq_rg (bd_bq M1 (bd_add (hB (G k 1)) (hTb (G k 1)))) M1 M2 (by have := qn_le M3 (show n ≤ 24600 by omega); omega) (G k 4) (by omega)
        unfold wX6_followRatchet wX6_followRatchet_b0
        refine ⟨m1, _, m2, lk.1, (row_ h p1).1, ?_⟩
        rw [lk.2.2.2.1, lk.2.2.2.2.2.2.1, nI64 (by omega)]
        refine p_wholeTimes h p1 (by omega) (hV _ (by omega)) bV.1 bV.2.2.1 a0 (p_mhas lk (by omega) (if_n (by decide) ⟨m1, _, m5, lk.1, m7, ?_⟩))
        rw [lk.2.1, m9, cl_nI (by omega), rep_AJ h k (mot_al hm).1, hmk]
        refine ⟨in_nI (by omega) (by decide), ?_⟩
        generalize hz : fl (G k 4 : Nat) (P (G k 1) + T (G k 1)) = z at *
        have hzr : Rg z := by
          rw [← hz]
          unfold fl
          have h1 := Int.natAbs_ediv_le_natAbs ((G k 4 : Nat) * (P (G k 1) + T (G k 1)).num) ((P (G k 1) + T (G k 1)).den : Int)
          refine rg_abs h1 ?_
          rw [Int.mul_comm]
          exact bV.2.2.2
        by_cases cz : z ≤ mk k
        · refine if_p (by rw [cmp_le hzr hrm]; exact cz) ?_
          have e1 : tn (G k 3) = 0 := by
            rw [← ectr]
            rw [ctr_r d2, hz]
            have e : max 0 (z - mk k) = 0 := by omega
            rw [e, Rat.div_def, Rat.intCast_zero, Rat.zero_mul]
          have e2 : mk' k = mk k := by
            rw [emk]
            unfold mkn
            rw [if_pos d2, hz]
            omega
          have e3 : vup T (G k 3) (tn (G k 3)) = T := by
            funext i
            unfold vup
            by_cases c : i = G k 3
            · rw [if_pos c, c, e1, hT0]
            · rw [if_neg c]
          refine fin S D h SamJ.rf hP ?_ hV (fun j => ?_)
          · rw [e3]
            exact hT
          · rw [e2]
            by_cases cj : j = k
            · rw [if_pos cj, cj, hmk]
            · rw [if_neg cj]
        · refine if_n (by rw [cmp_le hzr hrm]; exact cz) ⟨_, m4, _, m5, m7, ?_⟩
          rw [m9, lk.2.2.2.2.2.1, lk.2.2.2.2.2.2.1, rep_AJ h k (mot_al hm).1, hmk, nI64 (by omega), i6_sub]
          refine ⟨in_nI (by omega) (by decide), (row_ h p2).1, ?_⟩
          have hzm : Rg (z - mk k) := by
            have := hri d2
            have fd := fl_diff (a := G k 4) (q := P (G k 1)) (hTb (G k 1))
            rw [hz] at fd
            have l1 : (z - fl (G k 4 : Nat) (P (G k 1))).natAbs ≤ (z - fl (G k 4 : Nat) (P (G k 1))).natAbs * pm G nl (G k 1) := Nat.le_mul_of_pos_right _ M1
            have l2 : G k 4 * qm G nl (G k 1) ≤ 30 * qm G nl (G k 1) := Nat.mul_le_mul_right _ c4
            unfold Rg
            omega
          refine p_put h p2 (by omega) hzm (by unfold Rg; omega) a0 (fun S20 h20 => ?_)
          have ev : Rat.divInt (z - mk k) (G k 4 : Nat) = tn (G k 3) := by
            rw [← ectr, Rat.divInt_eq_div]
            rw [ctr_r d2, hz]
            have e : max 0 (z - mk k) = z - mk k := by omega
            rw [e]
            rfl
          rw [ev] at h20
          obtain ⟨u1, u2, u3, u4, u5, u6, u7, u8, u9, u10⟩ := mot_ h20 hm
          have lk20 := lkS_of (k := k) h20 (G := G) (lkC_sam hC rfl) hk (by omega)
          refine ⟨u1, _, u5, lk20.1, u7, ?_, fun S27 e27 => ?_⟩
          · rw [u9, lk20.2.1]
            exact in_nI (by omega) (by decide)
          · have h27 : Rep A E ls nl nc nd S27 ((putQ D (4 + 3 * m) (G k 3) (tn (G k 3))).setAJ (60 + m) k (i6 z)) := by
              rw [e27, lk20.2.1, cl_nI (by omega)]
              exact set_AJ h20 k _ (mot_al hm).1
            have ne60 : ∀ r, r ≠ 60 + m → ((putQ D (4 + 3 * m) (G k 3) (tn (G k 3))).setAJ (60 + m) k (i6 z)).AJ r = (putQ D (4 + 3 * m) (G k 3) (tn (G k 3))).AJ r := fun r hr => up2_row hr
            refine fin S27 _ h27 ((samJ_put (by unfold XM; omega) (by unfold XM; omega)).tr (samJ_set (Or.inr rfl))) ?_ ?_ ?_ (fun j => ?_)
            · exact rowV_other (rowV_put2 hP (by omega)) (ne60 _ (by omega)) (ne60 _ (by omega))
            · exact rowV_other (rowV_put hT) (ne60 _ (by omega)) (ne60 _ (by omega))
            · exact rowV_other (rowV_put2 hV (by omega)) (ne60 _ (by omega)) (ne60 _ (by omega))
            · show up2 (putQ D (4 + 3 * m) (G k 3) (tn (G k 3))).AJ (60 + m) k (i6 z) (60 + m) j = _
              rw [emk]
              unfold mkn up2
              rw [if_pos d2, hz, putQ_AJ (by omega) (by omega)]
              by_cases cj : j = k
              · have e : max (mk k) z = z := by omega
                rw [if_pos ⟨rfl, cj⟩, if_pos cj, e]
              · rw [if_neg (fun q => cj q.2), if_neg cj]
      · refine fi_n (fun z => d2 ((e0 114 (by decide)).mp z)) ⟨m1, _, m4, p_over lk hkk (fun v hv1 hv2 => ⟨lk.1, ?_⟩)⟩
        have d3 : G k 0 = 103 ∨ G k 0 = 105 ∨ G k 0 = 107 ∨ G k 0 = 112 := by
          unfold kOK at hkk
          omega
        have hov : (ovz G k).natAbs ≤ 30 := by
          unfold ovz
          split
          · omega
          · split
            · omega
            · omega
        obtain ⟨r1, r2, r3, r4, r5⟩ := src_le hG hL hk
        have fin2 : ∀ S', Rep A E ls nl nc nd S' (putQ D (4 + 3 * m) (G k 3) (T (G k 3) + cry G k (ovz G k) T)) → wX6_follow_b119 (A (20 + m)) (A (400 + k)) Φ S' := fun S' h' => by
          rw [hT0, Rat.zero_add, cry_ctr (P := P) (m := mk k) hkk d3, ectr] at h'
          refine fin S' _ h' (samJ_put (by unfold XM; omega) (by unfold XM; omega)) (rowV_put2 hP (by omega)) (rowV_put hT) (rowV_put2 hV (by omega)) (fun j => ?_)
          rw [putQ_AJ (by omega) (by omega), emk]
          rw [mkn_n (show G k 0 ≠ 114 by omega)]
          by_cases cj : j = k
          · rw [if_pos cj, cj, hmk]
          · rw [if_neg cj]
        by_cases hpl : G k 0 = 112
        · obtain ⟨r6, r7⟩ := r5 hpl
          have b2 := bd_scale (dQ G nl 3 (G k 2)).1 (hTb (G k 1))
          have b3 := bd_scale (dQ G nl 3 (G k 1)).1 (hTb (G k 2))
          obtain ⟨w1, -, -, -⟩ := dQ_pos hG 3 (G k 2)
          obtain ⟨w2, -, -, -⟩ := dQ_pos hG 3 (G k 1)
          unfold pm qm at b2 b3
          have em : 24 * (dQ G nl 3 (G k 2)).1 * (dQ G nl 3 (G k 1)).1 = 24 * (dQ G nl 3 (G k 1)).1 * (dQ G nl 3 (G k 2)).1 := by ac_rfl
          rw [em] at b3
          have l1 : (dQ G nl 3 (G k 1)).1 * (dQ G nl 3 (G k 2)).1 ≤ 216000 * 216000 := Nat.mul_le_mul r2 r6
          have l2 : (dQ G nl 3 (G k 1)).2 * (dQ G nl 3 (G k 2)).1 ≤ 216000 * 216000 := Nat.mul_le_mul r3 r6
          have l3 : (dQ G nl 3 (G k 2)).2 * (dQ G nl 3 (G k 1)).1 ≤ 216000 * 216000 := Nat.mul_le_mul r7 r2
          have l4 : 24 * (dQ G nl 3 (G k 1)).1 * (dQ G nl 3 (G k 2)).1 = 24 * ((dQ G nl 3 (G k 1)).1 * (dQ G nl 3 (G k 2)).1) := Nat.mul_assoc _ _ _
          have l5 : (dQ G nl 3 (G k 1)).2 * (dQ G nl 3 (G k 2)).1 * (ovz G k).natAbs ≤ 216000 * 216000 * 30 := Nat.mul_le_mul l2 hov
          refine p_carry (B1 := 0) h p2 hr2 hC hG hL hk hv1 hT (by rw [hT0]; exact bd_0 _) b2 (fun _ => b3) (Nat.mul_pos (Nat.mul_pos (by decide) w2) w1) (by rw [l4]; omega) (by omega) fin2
        · have l5 : qm G nl (G k 1) * (ovz G k).natAbs ≤ 216000 * 30 := Nat.mul_le_mul r3 hov
          refine p_carry (B1 := 0) (B3 := 0) h p2 hr2 hC hG hL hk hv1 hT (by rw [hT0]; exact bd_0 _) (hTb (G k 1)) (fun e => absurd e hpl) M1 (by omega) (by omega) fin2
  rw [lk.2.2.2.1]
  refine p_isMoving h p2 (by omega) (fun e1 => fi_p rfl ⟨m1, _, m4, lk.1, (row_ h p2).1, ?_⟩) (fun e1 => fi_n (by decide) go)
  rw [(hT _ (by omega)).1, num0 rf.1] at e1
  have stay : (G k 0 = 112 → T (G k 2) = 0) → Φ S := fun e2 => by
    obtain ⟨z1, z2⟩ := ctr_zero (tn := T) (P := P) hkk e1 e2 hri
    rw [ectr] at z1
    rw [← emk] at z2
    have e3 : vup T (G k 3) (tn (G k 3)) = T := by
      funext i
      unfold vup
      by_cases c : i = G k 3
      · rw [if_pos c, c, z1, hT0]
      · rw [if_neg c]
    refine kk1 S D ha h SamJ.rf hP ?_ ?_ (fun j => ?_)
    · rw [e3]
      exact hT
    · rw [e3]
      exact hV
    · rw [z2]
      by_cases cj : j = k
      · rw [if_pos cj, cj, hmk]
      · rw [if_neg cj]
  rw [lk.2.2.2.2.1]
  unfold sec
  by_cases hpl : G k 0 = 112
  · rw [if_pos hpl]
    have hs' := hs hpl
    obtain ⟨O1, O2, O3⟩ := pm_lt hG (G k 2)
    have rs := bq_rg (bd_bq O1 (hTb (G k 2))) O1 O2 (by omega) 1 (by omega)
    refine p_isMoving h p2 (by omega) (fun e2 => fi_p rfl (stay (fun _ => ?_))) (fun e2 => fi_n (by decide) go)
    rw [(hT _ (by omega)).1, num0 rs.1] at e2
    exact e2
  · rw [if_neg hpl]
    exact p_isMoving0 h p2 (fi_p rfl (stay (fun e => absurd e hpl)))
end FO9
