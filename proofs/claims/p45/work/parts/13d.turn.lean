/-! THE CLASS: checks, broken links, what moved -/
def inR (x : Int32) (n : Nat) : Prop := 0 ≤ x.toInt ∧ x.toInt < (n : Int)
theorem inR_ex {x : Int32} {n : Nat} (h : inR x n) (hn : n < 2 ^ 31) : ∃ s, s < n ∧ x = nI s := by
  obtain ⟨h1, h2⟩ := h
  refine ⟨x.toInt.toNat, by omega, Int32.toInt_inj.mp ?_⟩
  rw [nI_toInt (by omega)]
  omega
theorem inR_nI {s n : Nat} (h : s < n) (hn : n < 2 ^ 31) : inR (nI s) n := by
  unfold inR
  rw [nI_toInt (by omega)]
  omega
theorem lt0_iff {x : Int32} : x < 0 ↔ x.toInt < 0 := Int32.lt_iff_toInt_lt
theorem ltn_iff {x : Int32} {n : Nat} (hn : n < 2 ^ 31) : x < nI n ↔ x.toInt < (n : Int) := by
  rw [Int32.lt_iff_toInt_lt, nI_toInt hn]
def bw (W : Nat → Rat) (life : Nat → Nat) (k : Nat) : Bool := decide (0 < life k ∧ (life k : Int) * ((W k).den : Int) < (W k).num)
def cnt : Nat → (Nat → Bool) → Nat
  | 0, _ => 0
  | n + 1, f => cnt n f + (if f n = true then 1 else 0)
theorem cnt_le (f : Nat → Bool) : ∀ n, cnt n f ≤ n
  | 0 => Nat.le_refl _
  | n + 1 => by
    have := cnt_le f n
    show cnt n f + (if f n = true then 1 else 0) ≤ n + 1
    by_cases c : f n = true
    · rw [if_pos c]
      omega
    · rw [if_neg c]
      omega
theorem lkC_cg {G : Nat → Nat → Nat} {nl : Nat} {D D' : Dt} (h : LkC G nl D) (e : ∀ i r, 320 ≤ i → i < 327 → D'.FI i r = D.FI i r) : LkC G nl D' := by
  intro k hk
  rw [e 320 _ (by omega) (by omega), e 321 _ (by omega) (by omega), e 322 _ (by omega) (by omega), e 323 _ (by omega) (by omega), e 324 _ (by omega) (by omega), e 325 _ (by omega) (by omega), e 326 _ (by omega) (by omega)]
  exact h k hk
theorem den_le {M B : Nat} {q : Rat} (h : Bq M B q) (hM : 0 < M) : q.den ≤ M := by
  obtain ⟨w0, w1, w2, w3⟩ := h
  have w4 : 0 < w1 := Nat.pos_of_ne_zero (fun e => by rw [e, Nat.mul_zero] at w2; omega)
  rw [w2]
  exact Nat.le_mul_of_pos_right _ w4
section CB9
variable {A E : Nat → Nat} {ls : Nat → List Nat} {nl nc nd : Nat} {S : Hp} {D : Dt} {G : Nat → Nat → Nat}
theorem p_checkShaft {Φ : Hp → Prop} {Ψ : Hp → String → Prop} {ns : Nat} {x : Int32} (h : Rep A E ls nl nc nd S D) (hns : D.FI 461 0 = nI ns) (h14 : ns ≤ 14) (k : ∀ s, s < ns → x = nI s → Φ S) (kt : ¬ inR x ns → Ψ S "java/lang/IndexOutOfBoundsException") : wX7_checkShaft S (A 0) x Φ Ψ := by
  have v : S.FI 461 (A 0) = nI ns := by
    rw [rep_FI h 461 (by decide) c_al]
    exact hns
  unfold wX7_checkShaft wX7_checkShaft_b0 wX7_checkShaft_b12
  rw [v]
  by_cases c : x < 0
  · exact if_p c (kt (fun q => by have := lt0_iff.mp c; have := q.1; omega))
  · refine if_n c ⟨c_is h, ?_⟩
    by_cases c2 : x < nI ns
    · obtain ⟨s, hs, e⟩ := inR_ex (x := x) (n := ns) ⟨Int.not_lt.mp (fun q => c (lt0_iff.mpr q)), (ltn_iff (by omega)).mp c2⟩ (by omega)
      exact if_p c2 (k s hs e)
    · exact if_n c2 (kt (fun q => c2 ((ltn_iff (by omega)).mpr q.2)))
theorem p_checkRange {Φ : Hp → Prop} {Ψ : Hp → String → Prop} {x lo hi : Int32} (k : lo.toInt ≤ x.toInt → x.toInt ≤ hi.toInt → Φ S) (kt : ¬ (lo.toInt ≤ x.toInt ∧ x.toInt ≤ hi.toInt) → Ψ S "java/lang/IllegalArgumentException") : wX7_checkRange S x lo hi Φ Ψ := by
  unfold wX7_checkRange wX7_checkRange_b0 wX7_checkRange_b10
  by_cases c : x < lo
  · exact if_p c (kt (fun q => by have := Int32.lt_iff_toInt_lt.mp c; have := q.1; omega))
  · refine if_n c ?_
    have c1 : lo.toInt ≤ x.toInt := Int.not_lt.mp (fun q => c (Int32.lt_iff_toInt_lt.mpr q))
    by_cases c2 : x ≤ hi
    · exact if_p c2 (k c1 (Int32.le_iff_toInt_le.mp c2))
    · exact if_n c2 (kt (fun q => c2 (Int32.le_iff_toInt_le.mpr q.2)))
theorem p_breakWorn {Φ : Hp → Prop} {ns n : Nat} {lv : Nat → Nat} {W : Nat → Rat} {life : Nat → Nat} (h : Rep A E ls nl nc nd S D) (hC : LkC G nl D) (hG : GrOK ns nl G) (hL : Lev nl G lv) (hls : ls 0 = (List.range nl).map (fun k => A (400 + k))) (hlf : ∀ k, k < nl → D.FI 329 (400 + k) = nI (life k) ∧ life k ≤ 999) (hW : RowV D 1 16 W) (hB : BdW G nl n W) (hn : n ≤ 24600)
    (kk : ∀ S' D', Rep A E ls nl nc nd S' D' → SamG (fun i _ => i = 328) (fun r => r = 63) (fun _ => False) D D' → (∀ k, k < nl → D'.FI 328 (400 + k) = if bw W life k = true then 1 else D.FI 328 (400 + k)) → (∀ k, D'.AI 63 k = if k < nl ∧ bw W life k = true then 0 else D.AI 63 k) → Φ S') : wX7_breakWornLinks S (A 0) Φ := by
  have hnl14 := hG.2.1
  unfold wX7_breakWornLinks wX7_breakWornLinks_b0
  refine it2_ex (fun j S1 v => v = nI j ∧ ∃ D1, Rep A E ls nl nc nd S1 D1 ∧ SamG (fun i _ => i = 328) (fun r => r = 63) (fun _ => False) D D1 ∧ (∀ k, k < nl → D1.FI 328 (400 + k) = if k < j ∧ bw W life k = true then 1 else D.FI 328 (400 + k)) ∧ (∀ k, D1.AI 63 k = if k < j ∧ bw W life k = true then 0 else D.AI 63 k)) nl ?_ ?_ ⟨rfl, D, h, SamG.rf, fun k _ => by rw [if_neg (fun q => Nat.not_lt_zero k q.1)], fun k => by rw [if_neg (fun q => Nat.not_lt_zero k q.1)]⟩
  · rintro j hj S1 _ k9 ⟨rfl, D1, h1, s1, f1, t1⟩ hk9
    have hC1 := lkC_cg hC (D' := D1) (fun i r h1 h2 => s1.1 i r (by omega))
    have lk := lkS_of h1 hC1 hj (by omega)
    obtain ⟨l1, l2⟩ := hlf j hj
    have vlf : S1.FI 329 (A (400 + j)) = nI (life j) := by
      rw [rep_FI h1 329 (by decide) (al_l hj), s1.1 _ _ (by omega)]
      exact l1
    have hW1 : RowV D1 1 16 W := rowV_other hW (s1.2.2 32 (fun q => q)) (s1.2.2 33 (fun q => q))
    have eW := hW1 j (by omega)
    have r1 : j < rn 1 := by
      show j < 16
      omega
    obtain ⟨w1, w2, w3⟩ := w_num hG hL hj
    have hWb := bd_bq w1 (hB j hj)
    have hnw : n * wbo G nl j ≤ 24600 * 100000000000 := Nat.mul_le_mul hn w3
    have rW := bq_rg hWb w1 (by omega) (by omega) 1 (by omega)
    have dl := den_le hWb w1
    have rl : Rg ((life j : Int) * ((W j).den : Int)) := by
      have h1 : life j * (W j).den ≤ 999 * 1200000000000 := Nat.mul_le_mul l2 (by omega)
      have h2 : ((life j : Int) * ((W j).den : Int)) = ((life j * (W j).den : Nat) : Int) := by rw [Int.natCast_mul]
      rw [h2]
      unfold Rg
      omega
    have keep : bw W life j = false → wX7_breakWornLinks_b72 (A 0) Φ k9 S1 (nI j) := fun hf => by
      unfold wX7_breakWornLinks_b72
      rw [← nI_succ]
      have hx : ∀ k, (k < j + 1 ∧ bw W life k = true) ↔ (k < j ∧ bw W life k = true) := fun k => by
        constructor
        · intro q
          refine ⟨?_, q.2⟩
          by_cases c : k = j
          · rw [c, hf] at q
            exact absurd q.2 (by decide)
          · omega
        · exact fun q => ⟨by omega, q.2⟩
      refine hk9 _ _ ⟨rfl, D1, h1, s1, fun k hk => ?_, fun k => ?_⟩
      · rw [f1 k hk]
        by_cases c : k < j ∧ bw W life k = true
        · rw [if_pos c, if_pos ((hx k).mpr c)]
        · rw [if_neg c, if_neg (fun q => c ((hx k).mp q))]
      · rw [t1 k]
        by_cases c : k < j ∧ bw W life k = true
        · rw [if_pos c, if_pos ((hx k).mpr c)]
        · rw [if_neg c, if_neg (fun q => c ((hx k).mp q))]
    have w1' := (row_ h1 (p := 1) (by decide)).1
    unfold wX7_breakWornLinks_b2
    refine ⟨c_is h1, A (1 + 0), rep_fr h1 (448, 0, 1) (by decide), ls_is h1 (by decide), p_size h1 (j := 0) (by decide) (if_n ?_ ⟨c_is h1, A (1 + 0), rep_fr h1 (448, 0, 1) (by decide), ls_is h1 (by decide), p_get (x := A (400 + j)) h1 (j := 0) (by decide) (lnk_get hls hj) ⟨A (400 + j), rfl, lk.1, ?_⟩⟩)⟩
    · rw [lnk_len hls]
      exact nI_ge hj (by omega)
    rw [vlf]
    refine ⟨fun c => keep ?_, fun c => ⟨c_is h1, A (9 + 1), rep_fr h1 (457, 0, 10) (by decide), w1', p_overAt h1 (p := 1) (by decide) r1 ⟨lk.1, c_is h1, A (9 + 1), rep_fr h1 (457, 0, 10) (by decide), w1', p_underAt h1 (p := 1) (by decide) r1 ?_⟩⟩⟩
    · refine decide_eq_false (fun q => ?_)
      exact nI_nle q.1 (by omega) c
    have hl0 : 0 < life j := Nat.pos_of_ne_zero (fun e => c (by rw [e]; decide))
    rw [eW.1, eW.2, vlf, nI64 (by omega), i6_mul, cmp_le rW.1 rl]
    refine ⟨fun c2 => keep (decide_eq_false (fun q => by omega)), fun c2 => ⟨lk.1, fun S2 e2 => ?_⟩⟩
    have hb : bw W life j = true := decide_eq_true ⟨hl0, by omega⟩
    have h2 := set_FI h1 (r := 400 + j) (i := 328) 1 (al_l hj) (by decide)
    rw [← e2] at h2
    have hC2 : LkC G nl (D1.setFI 328 (400 + j) 1) := lkC_cg hC1 (fun i r q1 q2 => dtFI_n (fun q => by omega))
    have lk2 := lkS_of h2 hC2 hj (by omega)
    refine ⟨c_is h2, A 20, rep_fr h2 (458, 0, 20) (by decide), (mot_ h2 (m := 0) (by decide)).1, p_setActs h2 (m := 0) (by decide) lk2 (by omega) (nb_bI false) (fun S3 h3 => ?_)⟩
    unfold wX7_breakWornLinks_b72
    rw [← nI_succ]
    refine hk9 _ _ ⟨rfl, _, h3, (s1.tr (samG_F rfl)).tr (samG_I rfl), fun k hk => ?_, fun k => ?_⟩
    · show (D1.setFI 328 (400 + j) 1).FI 328 (400 + k) = _
      by_cases c3 : k = j
      · rw [c3, dtFI_s, if_pos ⟨by omega, hb⟩]
      · rw [dtFI_n (fun q => c3 (by omega)), f1 k hk]
        by_cases c4 : k < j ∧ bw W life k = true
        · rw [if_pos c4, if_pos ⟨by omega, c4.2⟩]
        · rw [if_neg c4, if_neg (fun q => c4 ⟨by omega, q.2⟩)]
    · show ((D1.setFI 328 (400 + j) 1).setAI 63 j 0).AI 63 k = _
      by_cases c3 : k = j
      · rw [c3, dtAI_s, if_pos ⟨by omega, hb⟩]
      · rw [dtAI_n (fun q => c3 q.2)]
        show D1.AI 63 k = _
        rw [t1 k]
        by_cases c4 : k < j ∧ bw W life k = true
        · rw [if_pos c4, if_pos ⟨by omega, c4.2⟩]
        · rw [if_neg c4, if_neg (fun q => c4 ⟨by omega, q.2⟩)]
  · rintro S1 _ k9 ⟨rfl, D1, h1, s1, f1, t1⟩
    unfold wX7_breakWornLinks_b2
    refine ⟨c_is h1, A (1 + 0), rep_fr h1 (448, 0, 1) (by decide), ls_is h1 (by decide), p_size h1 (j := 0) (by decide) (if_p ?_ (kk S1 D1 h1 s1 (fun k hk => ?_) t1))⟩
    · rw [lnk_len hls]
      exact nI_le (Nat.le_refl _) (by omega)
    · rw [f1 k hk]
      by_cases c : bw W life k = true
      · rw [if_pos c, if_pos ⟨hk, c⟩]
      · rw [if_neg c, if_neg (fun q => c q.2)]
theorem p_countMoved {Φ : Hp → Int32 → Prop} {ns : Nat} {P P' : Nat → Rat} (h : Rep A E ls nl nc nd S D) (hns : D.FI 461 0 = nI ns) (h14 : ns ≤ 14) (hP' : RowV D 2 14 P') (hP : RowV D 5 14 P) (sP' : ∀ s, Sm (P' s)) (sP : ∀ s, Sm (P s)) (kk : Φ S (nI (cnt ns (fun s => decide (P' s ≠ P s))))) : wX7_countMoved S (A 0) Φ := by
  have v : S.FI 461 (A 0) = nI ns := by
    rw [rep_FI h 461 (by decide) c_al]
    exact hns
  obtain ⟨m1, m2, m3, m4, m5, m6, m7, m8, m9, m10⟩ := mot_ h (m := 0) (by decide)
  obtain ⟨n1, n2, n3, n4, n5, n6, n7, n8, n9, n10⟩ := mot_ h (m := 1) (by decide)
  unfold wX7_countMoved wX7_countMoved_b0
  refine it3_ex (fun j S1 a v => S1 = S ∧ v = nI j ∧ a = nI (cnt j (fun s => decide (P' s ≠ P s)))) ns ?_ ?_ ⟨rfl, rfl, rfl⟩
  · rintro j hj S1 _ _ k9 ⟨rfl, rfl, rfl⟩ hk9
    have e2 := hP' j (by omega)
    have e5 := hP j (by omega)
    have j2 : j < rn 2 := by
      show j < 14
      omega
    unfold wX7_countMoved_b4
    rw [v]
    refine ⟨c_is h, if_n (nI_ge hj (by omega)) ⟨A 20, rep_fr h (458, 0, 20) (by decide), m1, A (9 + 2), m2, A 21, rep_fr h (459, 0, 21) (by decide), n1, A (9 + 5), n2, (row_ h (p := 2) (by decide)).1, p_isSame h (p := 2) (p' := 5) (by decide) (by decide) j2 j2 (fun q1 q2 => ?_) (fun q => ?_)⟩⟩
    · refine fi_n (by decide) ?_
      unfold wX7_countMoved_b36
      rw [← nI_succ]
      have e : P' j = P j := fq_inj (o := D.AJ (30 + 2 * 2) j) (u := D.AJ (31 + 2 * 2) j) e2 (by rw [q1, q2]; exact e5) (sP' j) (sP j)
      refine hk9 _ _ _ ⟨rfl, rfl, ?_⟩
      show _ = nI (cnt j _ + _)
      rw [if_neg (by simp [e]), Nat.add_zero]
    · refine fi_p rfl ?_
      unfold wX7_countMoved_b36
      rw [← nI_succ, ← nI_succ]
      have e : P' j ≠ P j := fun e => q (by rw [e] at e2; exact fq_unique e2 e5)
      refine hk9 _ _ _ ⟨rfl, rfl, ?_⟩
      show _ = nI (cnt j _ + _)
      rw [if_pos (by simp [e])]
  · rintro S1 _ _ k9 ⟨rfl, rfl, rfl⟩
    unfold wX7_countMoved_b4
    rw [v]
    exact ⟨c_is h, if_p (nI_le (Nat.le_refl _) (by omega)) kk⟩
end CB9
