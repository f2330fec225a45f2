/-! THE CLASS: wear -/
theorem lnk_get {A : Nat → Nat} {ls : Nat → List Nat} {nl k : Nat} (hls : ls 0 = (List.range nl).map (fun k => A (400 + k))) (hk : k < nl) : (ls 0)[k]? = some (A (400 + k)) := by
  rw [hls, List.getElem?_map, List.getElem?_range hk]
  rfl
theorem lnk_len {A : Nat → Nat} {ls : Nat → List Nat} {nl : Nat} (hls : ls 0 = (List.range nl).map (fun k => A (400 + k))) : (ls 0).length = nl := by
  rw [hls, List.length_map, List.length_range]
section CW9
variable {A E : Nat → Nat} {ls : Nat → List Nat} {nl nc nd : Nat} {S : Hp} {D : Dt} {G : Nat → Nat → Nat}
theorem t_wearBy0 {Φ : Hp → Prop} {x : Int32} (h : Rep A E ls nl nc nd S D) (k : Φ S) : wX7_wearBy S (A 0) x (-1) Φ := by
  obtain ⟨m1, m2, m3, m4, m5, m6, m7, m8, m9, m10⟩ := mot_ h (m := 0) (by decide)
  unfold wX7_wearBy wX7_wearBy_b0
  exact ⟨c_is h, A 20, rep_fr h (458, 0, 20) (by decide), m1, A (9 + 4), m4, (row_ h (p := 4) (by decide)).1, p_isMoving0 h (p := 4) (by decide) (if_p rfl k)⟩
theorem t_wearBy {Φ : Hp → Prop} {k s n M B1 B2 : Nat} {W tn : Nat → Rat} (h : Rep A E ls nl nc nd S D) (hk : k < n) (hn : n ≤ 16) (hs : s < 14) (hW : RowV D 1 n W) (hT : RowV D 4 14 tn) (b1 : Bd M B1 (W k)) (b2 : Bd M B2 (tn s)) (hM0 : 0 < M) (hM : M ≤ 67184640000000) (hB : B1 + B2 ≤ 100000000000000000)
    (kk : ∀ S' D', Rep A E ls nl nc nd S' D' → SamJ (fun r => r = 32 ∨ r = 33) D D' → RowV D' 1 n (vup W k (W k + aq (tn s))) → Φ S') : wX7_wearBy S (A 0) (nI k) (nI s) Φ := by
  have a458 := rep_fr h (458, 0, 20) (by decide)
  obtain ⟨m1, m2, m3, m4, m5, m6, m7, m8, m9, m10⟩ := mot_ h (m := 0) (by decide)
  have r4 : s < rn 4 := hs
  have r1 : k < rn 1 := Nat.lt_of_lt_of_le hk hn
  have w4 := (row_ h (p := 4) (by decide)).1
  have e4 := hT s hs
  have e1 := hW k hk
  have q2 := bd_bq hM0 b2
  have g2 := bq_rg q2 hM0 hM (by omega) 1 (by omega)
  obtain ⟨x1, x2⟩ := aq_num (tn s)
  have q2' : Bp M B2 ((tn s).num.natAbs : Int) (tn s).den := by
    have := bd_bq hM0 (bd_abs b2)
    unfold Bq at this
    rw [x1, x2] at this
    exact this
  have eq14 : Rat.divInt ((tn s).num.natAbs : Int) (tn s).den = aq (tn s) := by
    rw [← x1, ← x2, q_self]
  unfold wX7_wearBy wX7_wearBy_b0
  refine ⟨c_is h, A 20, a458, m1, A (9 + 4), m4, w4, p_isMoving h (p := 4) (by decide) r4 (fun c => if_p rfl ?_) (fun c => if_n (by decide) ⟨c_is h, A (9 + 1), rep_fr h (457, 0, 10) (by decide), A 20, a458, m1, A (9 + 4), m4, w4, p_overAt h (p := 4) (by decide) r4 ⟨c_is h, A 20, a458, m1, A (9 + 4), m4, w4, p_underAt h (p := 4) (by decide) r4 ⟨(row_ h (p := 1) (by decide)).1, ?_⟩⟩⟩)⟩
  · rw [e4.1] at c
    have z := (num0 g2.1).mp c
    refine kk S D h SamJ.rf (rowV_congr hW (fun i hi => ?_))
    unfold vup
    by_cases ci : i = k
    · rw [if_pos ci, z, aq_0, Rat.add_zero, ci]
    · rw [if_neg ci]
  · rw [e4.1, e4.2, i6_abs g2.1]
    refine p_add h (p := 1) (by decide) r1 e1 (bd_bq hM0 b1) q2' hM0 (by omega) (by omega) (fun S' h' => kk S' _ h' (samJ_put (Or.inl rfl) (Or.inr rfl)) ?_)
    rw [eq14]
    exact rowV_put hW
theorem p_countWear {Φ : Hp → Prop} {ns n : Nat} {lv : Nat → Nat} {act : Nat → Bool} {W tn : Nat → Rat} (h : Rep A E ls nl nc nd S D) (hC : LkC G nl D) (hG : GrOK ns nl G) (hL : Lev nl G lv) (hls : ls 0 = (List.range nl).map (fun k => A (400 + k))) (hact : ∀ k, k < nl → D.AI 63 k = bI (act k)) (ha0 : ∀ k, nl ≤ k → act k = false) (hW : RowV D 1 16 W) (hT : RowV D 4 14 tn) (hn : n ≤ 24560) (hB : BdW G nl n W) (htb : ∀ s, Bd (pm G nl s) (qm G nl s) (tn s))
    (kk : ∀ S' D', Rep A E ls nl nc nd S' D' → SamJ (fun r => r = 32 ∨ r = 33) D D' → RowV D' 1 16 (wnx G act tn W) → Φ S') : wX7_countWear S (A 0) Φ := by
  have hnl14 := hG.2.1
  have hns14 := hG.1
  unfold wX7_countWear wX7_countWear_b0
  refine it2_ex (fun j S1 v => v = nI j ∧ ∃ D1, Rep A E ls nl nc nd S1 D1 ∧ SamJ (fun r => r = 32 ∨ r = 33) D D1 ∧ RowV D1 1 16 (fun k => if k < j then wnx G act tn W k else W k)) nl ?_ ?_ ⟨rfl, D, h, SamJ.rf, rowV_congr hW (fun i _ => by rw [if_neg (Nat.not_lt_zero i)])⟩
  · rintro j hj S1 _ k9 ⟨rfl, D1, h1, s1, r1⟩ hk9
    obtain ⟨hkk, hf, hs, ht⟩ := hG.2.2.1 j hj
    have lk := lkS_of h1 (lkC_sam hC s1.1) hj (by omega)
    obtain ⟨B1, B2, b1, b2, b3⟩ := w_src hG hL hj htb
    obtain ⟨w1, w2, w3⟩ := w_num hG hL hj
    have hWb := hB j hj
    have hnw : n * wbo G nl j ≤ 24560 * 100000000000 := Nat.mul_le_mul hn w3
    have hT1 : RowV D1 4 14 tn := rowV_other hT (s1.2.2.2 38 (by decide)) (s1.2.2.2 39 (by decide))
    have eW : (if j < j then wnx G act tn W j else W j) = W j := if_neg (Nat.lt_irrefl j)
    have done : ∀ (S2 : Hp) (D2 : Dt) (x : Rat), Rep A E ls nl nc nd S2 D2 → SamJ (fun r => r = 32 ∨ r = 33) D D2 → RowV D2 1 16 (vup (fun k => if k < j then wnx G act tn W k else W k) j x) → x = wnx G act tn W j → wX7_countWear_b54 (A 0) Φ k9 S2 (nI j) := fun S2 D2 x h2 s2 hx e => by
      unfold wX7_countWear_b54
      rw [← nI_succ]
      refine hk9 _ _ ⟨rfl, D2, h2, s2, rowV_congr hx (fun i hi => ?_)⟩
      unfold vup
      by_cases c : i = j
      · rw [if_pos c, if_pos (by omega), e, c]
      · rw [if_neg c]
        dsimp only
        by_cases c2 : i < j
        · rw [if_pos c2, if_pos (by omega)]
        · rw [if_neg c2, if_neg (by omega)]
    unfold wX7_countWear_b2
    refine ⟨c_is h1, A (1 + 0), rep_fr h1 (448, 0, 1) (by decide), ls_is h1 (by decide), p_size h1 (j := 0) (by decide) (if_n ?_ ⟨c_is h1, A (1 + 0), rep_fr h1 (448, 0, 1) (by decide), ls_is h1 (by decide), p_get (x := A (400 + j)) h1 (j := 0) (by decide) (lnk_get hls hj) ⟨A (400 + j), rfl, lk.1, c_is h1, A 20, rep_fr h1 (458, 0, 20) (by decide), (mot_ h1 (m := 0) (by decide)).1, p_doesActM h1 (m := 0) (by decide) lk (by omega) (fun c => if_p rfl ?_) (fun c => if_n (by decide) ⟨lk.1, c_is h1, ?_⟩)⟩⟩)⟩
    · rw [lnk_len hls]
      exact nI_ge hj (by omega)
    · have ha : ¬ act j = true := fun q => by
        rw [s1.2.2.1] at c
        have c' : D.AI 63 j = 0 := c
        rw [hact j hj, q] at c'
        exact absurd c' (by decide)
      refine done S1 D1 (W j) h1 s1 (rowV_congr r1 (fun i hi => ?_)) ?_
      · unfold vup
        by_cases ci : i = j
        · rw [if_pos ci, if_neg (by omega), ci]
        · rw [if_neg ci]
      · unfold wnx
        rw [if_neg ha]
    · have ha : act j = true := by
        cases e : act j
        · exact absurd (by rw [s1.2.2.1]; exact (hact j hj).trans (by rw [e]; rfl)) c
        · rfl
      rw [lk.2.2.2.1]
      refine t_wearBy (M := wmo G nl j) (B1 := n * wbo G nl j) (B2 := B1) h1 (n := 16) (by omega) (by omega) (by omega) r1 hT1 (by rw [eW]; exact hWb) b1 w1 (by omega) (by omega) (fun S2 D2 h2 s2 r2 => ?_)
      rw [eW] at r2
      have lk2 := lkS_of h2 (lkC_sam hC (s1.tr s2).1) hj (by omega)
      refine ⟨lk2.1, c_is h2, ?_⟩
      rw [lk2.2.2.2.2.1]
      by_cases hp : G j 0 = 112
      · have hsec : sec G j = nI (G j 2) := if_pos hp
        have hs' := hs hp
        rw [hsec]
        have hT2 : RowV D2 4 14 tn := rowV_other hT1 (s2.2.2.2 38 (by decide)) (s2.2.2.2 39 (by decide))
        have eW2 : vup (fun k => if k < j then wnx G act tn W k else W k) j (W j + aq (tn (G j 1))) j = W j + aq (tn (G j 1)) := if_pos rfl
        refine t_wearBy (M := wmo G nl j) (B1 := n * wbo G nl j + B1) (B2 := B2) h2 (n := 16) (by omega) (by omega) (by omega) r2 hT2 (by rw [eW2]; exact bd_add hWb (bd_abs b1)) (b2 hp) w1 (by omega) (by omega) (fun S3 D3 h3 s3 r3 => ?_)
        rw [eW2] at r3
        refine done S3 D3 (W j + aq (tn (G j 1)) + aq (tn (G j 2))) h3 ((s1.tr s2).tr s3) (rowV_congr r3 (fun i hi => ?_)) ?_
        · unfold vup
          by_cases c : i = j
          · rw [if_pos c, if_pos c]
          · rw [if_neg c, if_neg c, if_neg c]
        · unfold wnx
          rw [if_pos ha, if_pos hp]
      · have hsec : sec G j = -1 := if_neg hp
        rw [hsec]
        refine t_wearBy0 h2 (done S2 D2 _ h2 (s1.tr s2) r2 ?_)
        unfold wnx
        rw [if_pos ha, if_neg hp, Rat.add_zero]
  · rintro S1 _ k9 ⟨rfl, D1, h1, s1, r1⟩
    unfold wX7_countWear_b2
    refine ⟨c_is h1, A (1 + 0), rep_fr h1 (448, 0, 1) (by decide), ls_is h1 (by decide), p_size h1 (j := 0) (by decide) (if_p ?_ (kk S1 D1 h1 s1 (rowV_congr r1 (fun i hi => ?_))))⟩
    · rw [lnk_len hls]
      exact nI_le (Nat.le_refl _) (by omega)
    · by_cases c : i < nl
      · exact if_pos c
      · rw [if_neg c]
        unfold wnx
        rw [if_neg (fun q => absurd ((ha0 i (by omega)).symm.trans q) (by decide))]
end CW9
