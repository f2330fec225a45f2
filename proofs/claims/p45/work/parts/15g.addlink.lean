/-! THE CLASS: a link is added -/
section AD9
variable {A E : Nat → Nat} {ls : Nat → List Nat} {nl nc nd : Nat} {S : Hp} {D : Dt} {G : Nat → Nat → Nat} {g : Nat → Nat}
theorem p_wholeTimesZ {Φ : Hp → Int64 → Prop} {p i : Nat} {t : Nat} {q : Rat} (h : Rep A E ls nl nc nd S D) (hp : p < 11) (hi : i < rn p) (hq : Fq (D.AJ (30 + 2 * p) i) (D.AJ (31 + 2 * p) i) q)
    (s1 : Rg q.num) (s2 : Rg ((q.den : Int) * t)) (hd : Rg (q.den : Int)) (k : Φ S (i6 (fl t q))) : wX4_wholeTimes S (A (9 + p)) (nI i) (i6 t) Φ := by
  obtain ⟨r1, r2, r3, r4, r5, r6, r7⟩ := row_ h hp
  have := rn_le p
  have hd0 := den_pos q
  have hge := Int.emod_nonneg q.num (show (q.den : Int) ≠ 0 by omega)
  have hlt := Int.emod_lt_of_pos q.num hd0
  have hr : Rg (q.num % (q.den : Int)) := by
    unfold Rg at *
    omega
  have hrt : Rg (q.num % (q.den : Int) * t) := rg_abs (by rw [Int.natAbs_mul, Int.natAbs_mul]; exact Nat.mul_le_mul_right _ (by omega)) s2
  have hx : ∀ n, n = rn p → vp_in (nI i) n := fun n e => by
    rw [e]
    exact in_nI hi (by omega)
  unfold wX4_wholeTimes wX4_wholeTimes_b0
  refine ⟨r1, p_has1 h hp hi (if_n (by decide) ⟨r1, _, r3, r5, hx _ r7, ?_⟩)⟩
  rw [cl_nI (by omega), rep_AJ h i (row_al hp).2, hq.2]
  refine if_p ?_ ⟨_, r2, r4, hx _ r6, _, r3, r5, hx _ r7, ?_⟩
  · rw [i6_0, cmp_gt hd rg_0]
    exact hd0
  rw [rep_AJ h i (row_al hp).1, rep_AJ h i (row_al hp).2, hq.1, hq.2]
  refine p_floorMod s1 hd hd0 ⟨r1, _, r2, r4, hx _ r6, _, r3, r5, hx _ r7, ?_⟩
  rw [rep_AJ h i (row_al hp).1, rep_AJ h i (row_al hp).2, hq.1, hq.2]
  refine p_floorDiv s1 hd hd0 ⟨r1, _, r3, r5, hx _ r7, ?_⟩
  rw [rep_AJ h i (row_al hp).2, hq.2, i6_mul]
  refine p_floorDiv hrt hd hd0 ?_
  rw [i6_mul, i6_add, whole_rest q.num t hd0, Int.mul_comm q.num]
  exact k
theorem p_begin {Φ : Hp → Prop} {k M B : Nat} {eng brk : Bool} {P : Nat → Rat} (h : Rep A E ls nl nc nd S D) (hC : LkC G nl D) (hk : k < nl) (hk16 : k < 16) (he : D.FI 327 (400 + k) = bI eng) (hb : D.FI 328 (400 + k) = bI brk) (hf : G k 1 < 14) (ha : G k 4 ≤ 30) (hP : RowV D 2 14 P) (b : Bq M B (P (G k 1))) (hM0 : 0 < M) (hM : M ≤ 67184640000000) (hB : B ≤ 100000000000000000)
    (kk : ∀ S' D', Rep A E ls nl nc nd S' D' → SamG (fun _ _ => False) (fun r => r = 63) (fun r => r = 60) D D' → (∀ i, D'.AI 63 i = if i = k then bI (eng && !brk) else D.AI 63 i) → (∀ i, D'.AJ 60 i = if i = k then i6 (fl (G k 4 : Nat) (P (G k 1))) else D.AJ 60 i) → Φ S') : wX6_begin S (A 20) (A (400 + k)) Φ := by
  have lk := lkS_of h hC hk hk16
  obtain ⟨m1, m2, m3, m4, m5, m6, m7, m8, m9, m10⟩ := mot_ h (m := 0) (by decide)
  have ve : S.FI 327 (A (400 + k)) = bI eng := (rep_FI h 327 (by decide) (al_l hk)).trans he
  have vb : S.FI 328 (A (400 + k)) = bI brk := (rep_FI h 328 (by decide) (al_l hk)).trans hb
  unfold wX6_begin wX6_begin_b0
  refine p_mhas lk hk16 (if_n (by decide) ⟨m1, _, m6, lk.1, p_doesActL lk.1 ve vb ⟨m8, by rw [lk.2.1, m10]; exact in_nI hk16 (by decide), nb_bI _, fun S2 e2 => ?_⟩⟩)
  rw [lk.2.1, cl_nI (by omega)] at e2
  have h2 := set_AI h (r := 63 + 0) k (bI (eng && !brk)) (mot_al (m := 0) (by decide)).2
  rw [← e2] at h2
  have lk2 := lkS_of h2 (D := D.setAI (63 + 0) k (bI (eng && !brk))) hC hk hk16
  obtain ⟨n1, n2, n3, n4, n5, n6, n7, n8, n9, n10⟩ := mot_ h2 (m := 0) (by decide)
  have hP2 : RowV (D.setAI (63 + 0) k (bI (eng && !brk))) 2 14 P := hP
  have eP := hP2 (G k 1) hf
  have r1 : G k 1 < rn 2 := hf
  have bb := bq_rg b hM0 hM hB (G k 4) (by omega)
  refine ⟨n1, _, n5, lk2.1, A (9 + 2), n2, (row_ h2 (p := 2) (by decide)).1, ?_⟩
  rw [lk2.2.2.2.1, lk2.2.2.2.2.2.2.1, nI64 (by omega)]
  refine p_wholeTimesZ h2 (p := 2) (by decide) r1 eP bb.1 bb.2.2.1 bb.2.1 ⟨n7, by rw [lk2.2.1, n9]; exact in_nI hk16 (by decide), fun S3 e3 => ?_⟩
  rw [lk2.2.1, cl_nI (by omega)] at e3
  have h3 := set_AJ h2 (r := 60 + 0) k (i6 (fl (G k 4 : Nat) (P (G k 1)))) (mot_al (m := 0) (by decide)).1
  rw [← e3] at h3
  refine kk S3 _ h3 ((samG_I (XI := fun r => r = 63) (XJ := fun r => r = 60) rfl).tr (samG_J (XI := fun r => r = 63) (XJ := fun r => r = 60) rfl)) (fun i => ?_) (fun i => ?_)
  · show (D.setAI 63 k (bI (eng && !brk))).AI 63 i = _
    by_cases c : i = k
    · rw [if_pos c, c, dtAI_s]
    · rw [if_neg c, dtAI_n (fun q => c q.2)]
  · show ((D.setAI 63 k (bI (eng && !brk))).setAJ 60 k _).AJ 60 i = _
    by_cases c : i = k
    · rw [if_pos c, c, dtAJ_s]
    · rw [if_neg c, dtAJ_n (fun q => c q.2)]
      rfl
theorem p_addLink {Φ : Hp → Int32 → Prop} {Ψ : Hp → String → Prop} {ns n : Nat} {lv : Nat → Nat} {P : Nat → Rat} (h : Rep A E ls (nl + 1) nc nd S D) (hG : GrOK ns nl G) (_hL : Lev nl G lv) (hk : kOK (gx G nl g) nl) (h1 : g 1 < ns) (h2 : g 0 = 112 → g 2 < ns) (h3 : g 3 < ns) (hC : LkC (gx G nl g) (nl + 1) D) (hns : D.FI 461 0 = nI ns) (hls : ls 0 = (List.range nl).map (fun k => A (400 + k))) (hdr : DrA G nl 14 5 D)
    (he : D.FI 327 (400 + nl) = 1) (hb : D.FI 328 (400 + nl) = 0) (hP : RowV D 2 14 P) (hB : BdP G nl n P) (hn : n ≤ 24600)
    (kt : ∀ S' D', Rep A E ls (nl + 1) nc nd S' D' → SamG (fun _ _ => False) (fun r => r = 6) (fun _ => False) D D' → (drv G nl (g 3) ≠ none ∨ ¬ ∀ s, s < ns → dpF (gx G nl g) (nl + 1) 4 s ≤ 3) → Ψ S' "java/lang/UnsupportedOperationException")
    (kk : ∀ S' E' ls' D' ol, Rep A E' ls' (nl + 1) nc nd S' D' → drv G nl (g 3) = none → (∀ s, s < ns → dpF (gx G nl g) (nl + 1) 4 s ≤ 3) → GrOK ns (nl + 1) (gx G nl g) → Lev (nl + 1) (gx G nl g) (dp (gx G nl g) (nl + 1)) → SamG (fun _ _ => False) (fun r => r = 5 ∨ r = 6 ∨ r = 63) (fun r => r = 60) D D' → DrA (gx G nl g) (nl + 1) 14 5 D' →
      (∀ i, D'.AI 63 i = if i = nl then 1 else D.AI 63 i) → (∀ i, D'.AJ 60 i = if i = nl then i6 (fl (g 4 : Nat) (P (g 1))) else D.AJ 60 i) → ls' 0 = (List.range (nl + 1)).map (fun k => A (400 + k)) → ls' 1 = ol.map (fun k => A (400 + k)) → OlOK (gx G nl g) (nl + 1) ol → (∀ i, i ≠ 0 → i ≠ 1 → ls' i = ls i) → Φ S' (nI nl)) : wX7_addLink S (A 0) (A (400 + nl)) Φ Ψ := by
  have h14 := hG.1
  have hnl14 := hG.2.1
  have lk := lkS_of h hC (show nl < nl + 1 by omega) (by omega)
  have lto : S.FI 324 (A (400 + nl)) = nI (g 3) := by
    have := lk.2.2.2.2.2.1
    rw [gx_s] at this
    exact this
  have a5 : isA S (A 5) 21 := rep_is h (al_s (by decide)) (by decide)
  have n5 : S.N (A 5) = 14 := rep_N h (al_s (by decide)) (by decide)
  have v5 : S.AI (A 5) (nI (g 3)).toNatClampNeg = match drv G nl (g 3) with | none => -1 | some k => nI k := rd_I h (al_s (by decide)) (by omega) (hdr _ (by omega))
  unfold wX7_addLink wX7_addLink_b0
  refine ⟨c_is h, A 5, rep_fr h (452, 0, 5) (by decide), lk.1, a5, by rw [lto, n5]; exact in_nI (by omega) (by decide), ?_⟩
  rw [lto, v5]
  cases ed : drv G nl (g 3) with
  | some k =>
    have hk' := (drv_some ed).1
    exact if_n (nI_nm (by omega)) (kt S D h SamG.rf (Or.inl (by rw [ed]; exact (fun q => by cases q))))
  | none =>
    have hG' := gr_ext hG hk h1 h2 h3 ed
    refine if_p rfl ?_
    show wX7_areLevelsFit_s S (A 0) (A (400 + nl)) _
    refine p_fit_s h hC hG' hls hns (fun S2 D2 h2' s2 v2 ok => fi_n (by decide) ?_) (fun S2 D2 h2' s2 no => fi_p rfl (kt S2 D2 h2' s2 (Or.inr (fun q => no ((pss_fit hG').mpr q)))))
    have fit := (pss_fit hG').mp ok
    have hL3 := lev_fit hG' fit
    have hL' := dp_lev hG' hL3
    have hlen : (ls 0).length = nl := lnk_len hls
    refine ⟨c_is h2', A (1 + 0), rep_fr h2' (448, 0, 1) (by decide), ls_is h2' (by decide), p_size h2' (j := 0) (by decide) (if_p (by rw [hlen]; exact nI_lt (b := 16) (by omega) (by decide)) ⟨c_is h2', A (1 + 0), rep_fr h2' (448, 0, 1) (by decide), ls_is h2' (by decide), ?_⟩)⟩
    have hC2 := lkC_cg hC (D' := D2) (fun i r _ _ => s2.1 i r (fun q => q))
    have lk2 := lkS_of h2' hC2 (show nl < nl + 1 by omega) (by omega)
    refine p_lsadd h2' (j := 0) (by decide) (by rw [hlen]; omega) (Or.inr (Or.inr lk2.1)) (fun S3 E3 h3' _ => ?_)
    have lk3 := lkS_of h3' hC2 (show nl < nl + 1 by omega) (by omega)
    have lto3 : S3.FI 324 (A (400 + nl)) = nI (g 3) := by
      have := lk3.2.2.2.2.2.1
      rw [gx_s] at this
      exact this
    have b5 : isA S3 (A 5) 21 := rep_is h3' (al_s (by decide)) (by decide)
    have m5 : S3.N (A 5) = 14 := rep_N h3' (al_s (by decide)) (by decide)
    refine ⟨c_is h3', A 5, rep_fr h3' (452, 0, 5) (by decide), lk3.1, b5, by rw [lto3, m5]; exact in_nI (by omega) (by decide), fun S4 e4 => ?_⟩
    rw [lto3, lk3.2.1, cl_nI (by omega)] at e4
    have h4 := set_AI h3' (r := 5) (g 3) (nI nl) (al_s (by decide))
    rw [← e4] at h4
    have s4 : SamG (fun _ _ => False) (fun r => r = 5 ∨ r = 6 ∨ r = 63) (fun r => r = 60) D (D2.setAI 5 (g 3) (nI nl)) := (s2.wk (fun _ _ q => q) (fun r q => Or.inr (Or.inl q)) (fun r q => q.elim)).tr (samG_I (Or.inl rfl))
    have hC4 : LkC (gx G nl g) (nl + 1) (D2.setAI 5 (g 3) (nI nl)) := hC2
    obtain ⟨M1, M2, M3⟩ := pm_lt hG (g 1)
    have hq := qn_le M3 hn
    have hP4 : RowV (D2.setAI 5 (g 3) (nI nl)) 2 14 P := rowV_other hP (s2.2.2 34 (fun q => q)) (s2.2.2 35 (fun q => q))
    have d4 : ∀ s, s < 14 → (D2.setAI 5 (g 3) (nI nl)).AI 5 s = match drv (gx G nl g) (nl + 1) s with | none => -1 | some k => nI k := fun s hs => by
      rw [drv_ext hG ed]
      by_cases c : s = g 3
      · rw [if_pos c, c, dtAI_s]
      · rw [if_neg c, dtAI_n (fun q => c q.2), s2.2.1 5 (by decide)]
        exact hdr s hs
    have v4 : ∀ s, s < 14 → (D2.setAI 5 (g 3) (nI nl)).AI 6 s = nI (dp (gx G nl g) (nl + 1) s) := fun s hs => by
      rw [dtAI_n (by omega), v2 s hs, pss_dp hG' hL3]
    have f327 : (D2.setAI 5 (g 3) (nI nl)).FI 327 (400 + nl) = bI true := (s2.1 327 _ (fun q => q)).trans he
    have f328 : (D2.setAI 5 (g 3) (nI nl)).FI 328 (400 + nl) = bI false := (s2.1 328 _ (fun q => q)).trans hb
    have c63 : (D2.setAI 5 (g 3) (nI nl)).AI 63 = D.AI 63 := by
      rw [← s2.2.1 63 (by decide)]
      funext i
      exact dtAI_n (by omega)
    have c60 : (D2.setAI 5 (g 3) (nI nl)).AJ 60 = D.AJ 60 := s2.2.2 60 (fun q => q)
    generalize D2.setAI 5 (g 3) (nI nl) = D4 at *
    refine ⟨A 20, rep_fr h4 (458, 0, 20) (by decide), (mot_ h4 (m := 0) (by decide)).1, p_begin (P := P) (M := pm G nl (g 1)) (B := n * qm G nl (g 1)) h4 hC4 (show nl < nl + 1 by omega) (by omega) f327 f328 (by rw [gx_s]; omega) ((kOK_lt hk).2.1) hP4 (by rw [gx_s]; exact bd_bq M1 (hB _)) M1 M2 (by omega) (fun S5 D5 h5 s5 t5 q5 => ⟨c_is h5, ?_⟩)⟩
    have hC5 := lkC_cg hC4 (D' := D5) (fun i r _ _ => s5.1 i r (fun q => q))
    refine p_sortLinks h5 hC5 hG' hL' ?_ (fun s hs => by rw [s5.2.1 6 (by decide)]; exact v4 s hs) (fun S6 E6 ls6 ol h6 o6 l6 p6 => ?_)
    · show ls 0 ++ [A (400 + nl)] = _
      rw [hls, List.range_succ, List.map_append, List.map_singleton]
    have lk6 := lkS_of h6 hC5 (show nl < nl + 1 by omega) (by omega)
    refine ⟨lk6.1, ?_⟩
    rw [lk6.2.1]
    refine kk S6 E6 ls6 D5 ol h6 ed fit hG' hL' (s4.tr (s5.wk (fun _ _ q => q) (fun r q => Or.inr (Or.inr q)) (fun r q => q))) (fun s hs => ?_) (fun i => ?_) (fun i => ?_) ?_ l6 p6 (fun i i0 i1 => ?_)
    · rw [s5.2.1 5 (by decide)]
      exact d4 s hs
    · rw [t5 i, c63]
      rfl
    · rw [q5 i, c60, gx_s]
    · rw [o6 0 (by decide)]
      show ls 0 ++ [A (400 + nl)] = _
      rw [hls, List.range_succ, List.map_append, List.map_singleton]
    · rw [o6 i i1]
      exact if_neg i0
end AD9
