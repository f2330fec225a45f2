/-! SUMS: checksum, drivenShare, meanWorn, on both sides -/
def ck1 (o u : Nat → Int64) : Nat → Int64
  | 0 => 7
  | i + 1 => 31 * (31 * ck1 o u i + o i) + u i
def ck2 (f : Nat → Int32) (a : Int64) : Nat → Int64
  | 0 => a
  | t + 1 => 31 * ck2 f a t + (f t).toInt64
def ck3 (f : Nat → Nat → Int32) (a : Int64) : Nat → Int64
  | 0 => a
  | d + 1 => ck2 (f d) (ck3 f a d) 8
def mwS (o u : Nat → Int64) : Nat → UInt64
  | 0 => FP.dconst0
  | i + 1 => FP.dadd (mwS o u i) (FP.ddiv (FP.l2d (o i)) (FP.l2d (u i)))
theorem ck1_cg {o u o' u' : Nat → Int64} : ∀ n, (∀ i, i < n → o i = o' i ∧ u i = u' i) → ck1 o u n = ck1 o' u' n
  | 0, _ => rfl
  | n + 1, h => by
    show 31 * (31 * ck1 o u n + o n) + u n = 31 * (31 * ck1 o' u' n + o' n) + u' n
    rw [ck1_cg n (fun i hi => h i (by omega)), (h n (by omega)).1, (h n (by omega)).2]
theorem ck2_cg {f g : Nat → Int32} {a : Int64} : ∀ n, (∀ i, i < n → f i = g i) → ck2 f a n = ck2 g a n
  | 0, _ => rfl
  | n + 1, h => by
    show 31 * ck2 f a n + (f n).toInt64 = 31 * ck2 g a n + (g n).toInt64
    rw [ck2_cg n (fun i hi => h i (by omega)), h n (by omega)]
theorem ck3_cg {f g : Nat → Nat → Int32} {a b : Int64} (e : a = b) : ∀ n, (∀ d t, d < n → t < 8 → f d t = g d t) → ck3 f a n = ck3 g b n
  | 0, _ => e
  | n + 1, h => by
    show ck2 (f n) (ck3 f a n) 8 = ck2 (g n) (ck3 g b n) 8
    rw [ck3_cg e n (fun d t hd ht => h d t (by omega) ht)]
    exact ck2_cg 8 (fun t ht => h n t (by omega) ht)
theorem mwS_cg {o u o' u' : Nat → Int64} : ∀ n, (∀ i, i < n → o i = o' i ∧ u i = u' i) → mwS o u n = mwS o' u' n
  | 0, _ => rfl
  | n + 1, h => by
    show FP.dadd (mwS o u n) (FP.ddiv (FP.l2d (o n)) (FP.l2d (u n))) = FP.dadd (mwS o' u' n) (FP.ddiv (FP.l2d (o' n)) (FP.l2d (u' n)))
    rw [mwS_cg n (fun i hi => h i (by omega)), (h n (by omega)).1, (h n (by omega)).2]
/-- what wear is, for the mean -/
def WrOK (n : Nat) (o u : Nat → Int64) : Prop := ∀ i, i < n → ∃ q : Rat, o i = i6 q.num ∧ u i = i6 q.den ∧ 0 ≤ q.num ∧ Rg q.num ∧ q.den ≤ 9007199254740992
theorem wr_q {n i : Nat} {o u : Nat → Int64} (h : WrOK n o u) (hi : i < n) : Nng (FP.ddiv (FP.l2d (o i)) (FP.l2d (u i))) := by
  obtain ⟨q, e1, e2, h0, hr, hd⟩ := h i hi
  rw [e1, e2]
  exact nng_div (nng_l2d hr h0) (pfin_l2d (den_pos q) (by omega))
theorem wr_s {n : Nat} {o u : Nat → Int64} (h : WrOK n o u) : ∀ i, i ≤ n → Nng (mwS o u i)
  | 0, _ => nng_0
  | i + 1, hi => nng_add (wr_s h i (by omega)) (wr_q h (by omega))
section SU9
variable {A E : Nat → Nat} {ls : Nat → List Nat} {nl nc nd : Nat} {S : Hp} {D : Dt} {G : Nat → Nat → Nat}
theorem p_checksumC {Φ : Hp → Int64 → Prop} {ns : Nat} (h : Rep A E ls nl nc nd S D) (h14 : ns ≤ 14) (hns : D.FI 461 0 = nI ns) (hls : ls 3 = (List.range nd).map (fun c => A (600 + 3 * c))) (h4 : nd ≤ 4) (kk : Φ S (ck3 (fun d => D.AI (602 + 3 * d)) (ck1 (D.AJ 34) (D.AJ 35) ns) nd)) : wX7_checksum S (A 0) Φ := by
  have vns : S.FI 461 (A 0) = nI ns := (rep_FI h 461 (by decide) c_al).trans hns
  have mo := mot_ h (m := 0) (by decide)
  unfold wX7_checksum wX7_checksum_b0
  refine it3_ex (fun j S1 a v => S1 = S ∧ v = nI j ∧ a = ck1 (D.AJ 34) (D.AJ 35) j) ns ?_ ?_ ⟨rfl, rfl, rfl⟩
  · rintro j hj S1 _ _ k9 ⟨rfl, rfl, rfl⟩ hk9
    unfold wX7_checksum_b6
    rw [vns]
    refine ⟨c_is h, if_n (nI_ge hj (by omega)) ⟨A 20, rep_fr h (458, 0, 20) (by decide), mo.1, A 11, mo.2.1, (row_ h (p := 2) (by decide)).1, p_overAt (p := 2) h (by decide) (by show j < 14; omega) ⟨c_is h, A 20, rep_fr h (458, 0, 20) (by decide), mo.1, A 11, mo.2.1, (row_ h (p := 2) (by decide)).1, p_underAt (p := 2) h (by decide) (by show j < 14; omega) ?_⟩⟩⟩
    rw [← nI_succ]
    exact hk9 _ _ _ ⟨rfl, rfl, rfl⟩
  · rintro S1 _ _ k9 ⟨rfl, rfl, rfl⟩
    unfold wX7_checksum_b6
    rw [vns]
    refine ⟨c_is h, if_p (nI_le (Nat.le_refl _) (by omega)) ?_⟩
    refine it3_ex (fun j S2 a v => S2 = S1 ∧ v = nI j ∧ a = ck3 (fun d => D.AI (602 + 3 * d)) (ck1 (D.AJ 34) (D.AJ 35) ns) j) nd ?_ ?_ ⟨rfl, rfl, rfl⟩
    · rintro j hj S2 _ _ k8 ⟨rfl, rfl, rfl⟩ hk8
      obtain ⟨g1, g2, g3, g4, g5, g6, g7⟩ := drm_ h hj (by omega)
      obtain ⟨l0, l1, l2⟩ := drm_al (nl := nl) (nc := nc) hj
      unfold wX7_checksum_b58
      refine ⟨c_is h, A (1 + 3), rep_fr h (451, 0, 4) (by decide), ls_is h (by decide), p_size h (j := 3) (by decide) (if_n ?_ ⟨c_is h, A (1 + 3), rep_fr h (451, 0, 4) (by decide), ls_is h (by decide), p_get (x := A (600 + 3 * j)) h (j := 3) (by decide) (drum_get hls hj) ⟨A (600 + 3 * j), rfl, g1, ?_⟩⟩)⟩
      · rw [drum_len hls]
        exact nI_ge hj (by omega)
      refine it5_ex (fun t S3 a b c v => S3 = S2 ∧ v = nI t ∧ b = nI j ∧ c = A (600 + 3 * j) ∧ a = ck2 (D.AI (602 + 3 * j)) (ck3 (fun d => D.AI (602 + 3 * d)) (ck1 (D.AJ 34) (D.AJ 35) ns) j) t) 8 ?_ ?_ ⟨rfl, rfl, rfl, rfl, rfl⟩
      · rintro t ht S3 _ _ _ _ k7 ⟨rfl, rfl, rfl, rfl, rfl⟩ hk7
        unfold wX7_checksum_b85
        have v : S3.AI (A (602 + 3 * j)) (nI t).toNatClampNeg = D.AI (602 + 3 * j) t := rd_I h l2 (by omega) rfl
        refine if_n (nI_ge (b := 8) ht (by decide)) ⟨g1, _, g3, g5, by rw [g7]; exact in_nI ht (by decide), ?_⟩
        rw [v, ← nI_succ]
        exact hk7 _ _ _ _ _ ⟨rfl, rfl, rfl, rfl, rfl⟩
      · rintro S3 _ _ _ _ k7 ⟨rfl, rfl, rfl, rfl, rfl⟩
        unfold wX7_checksum_b85
        rw [← nI_succ]
        exact if_p (nI_le (Nat.le_refl 8) (by decide)) (hk8 _ _ _ ⟨rfl, rfl, rfl⟩)
    · rintro S2 _ _ k8 ⟨rfl, rfl, rfl⟩
      unfold wX7_checksum_b58
      refine ⟨c_is h, A (1 + 3), rep_fr h (451, 0, 4) (by decide), ls_is h (by decide), p_size h (j := 3) (by decide) (if_p ?_ kk)⟩
      rw [drum_len hls]
      exact nI_le (Nat.le_refl _) (by omega)
theorem p_checksumM {Φ : Hp → Int64 → Prop} {ns n : Nat} (h : Rep A E ls nl nc nd S D) (h14 : ns ≤ 14) (hns : D.FI 543 70 = nI ns) (hn : D.FI 546 70 = nI n) (h4 : n ≤ 4) (kk : ∀ S' D', Rep A E ls nl nc nd S' D' → Thr 0 D D' → Φ S' (ck3 (fun d => D.AI (240 + d)) (ck1 (D.AJ 72) (D.AJ 73) ns) n)) : wX8_checksum S (A 70) Φ := by
  unfold wX8_checksum wX8_checksum_b0
  refine ⟨m_is h, fun S0 e0 => ?_⟩
  obtain ⟨D0, r0, u0, j0, o0, f0⟩ := t_setFI (r := 70) (i := 549) h m_al (by decide) e0
  have t0 : Thr 0 D D0 := ⟨⟨fun i r hr => o0 i r hr, fun r _ => by rw [u0], fun r _ => by rw [j0]⟩, f0⟩
  have vns : S0.FI 543 (A 70) = nI ns := (rep_FI r0 543 (by decide) m_al).trans ((t0.FI (by decide)).trans hns)
  have vnd : S0.FI 546 (A 70) = nI n := (rep_FI r0 546 (by decide) m_al).trans ((t0.FI (by decide)).trans hn)
  have a72 := m_arr r0 512 72 22 14
  have a73 := m_arr r0 513 73 22 14
  have a102 := m_arr r0 542 102 26 4
  refine it3_ex (fun j S1 a v => S1 = S0 ∧ v = nI j ∧ a = ck1 (D.AJ 72) (D.AJ 73) j) ns ?_ ?_ ⟨rfl, rfl, rfl⟩
  · rintro j hj S1 _ _ k9 ⟨rfl, rfl, rfl⟩ hk9
    unfold wX8_checksum_b11
    rw [vns]
    have j14 : ∀ m, m = 14 → vp_in (nI j) m := fun m e => by
      rw [e]
      exact in_nI (by omega) (by decide)
    have v72 : S1.AJ (A 72) (nI j).toNatClampNeg = D.AJ 72 j := rd_J r0 (al_s (by decide)) (by omega) (by rw [t0.AJ])
    have v73 : S1.AJ (A 73) (nI j).toNatClampNeg = D.AJ 73 j := rd_J r0 (al_s (by decide)) (by omega) (by rw [t0.AJ])
    refine ⟨m_is r0, if_n (nI_ge hj (by omega)) ⟨A 72, a72.1, a72.2.1, j14 _ a72.2.2, A 73, a73.1, a73.2.1, j14 _ a73.2.2, ?_⟩⟩
    rw [v72, v73, ← nI_succ]
    exact hk9 _ _ _ ⟨rfl, rfl, rfl⟩
  · rintro S1 _ _ k9 ⟨rfl, rfl, rfl⟩
    unfold wX8_checksum_b11
    rw [vns]
    refine ⟨m_is r0, if_p (nI_le (Nat.le_refl _) (by omega)) ?_⟩
    refine it3_ex (fun j S2 a v => S2 = S1 ∧ v = nI j ∧ a = ck3 (fun d => D.AI (240 + d)) (ck1 (D.AJ 72) (D.AJ 73) ns) j) n ?_ ?_ ⟨rfl, rfl, rfl⟩
    · rintro j hj S2 _ _ k8 ⟨rfl, rfl, rfl⟩ hk8
      obtain ⟨q1, q2, q3, q4, q5, q6, q7, q8⟩ := grid_d r0 (d := j) (by omega)
      unfold wX8_checksum_b53
      rw [vnd, cl_nI (by omega)]
      refine ⟨m_is r0, if_n (nI_ge hj (by omega)) ⟨A 102, a102.1, a102.2.1, by rw [a102.2.2]; exact in_nI (by omega) (by decide), A (240 + j), q1, q4, ?_⟩⟩
      rw [q7]
      refine it6_ex (fun t S3 a b c d v => S3 = S2 ∧ v = nI t ∧ b = nI j ∧ c = A (240 + j) ∧ d = nI 8 ∧ a = ck2 (D.AI (240 + j)) (ck3 (fun d => D.AI (240 + d)) (ck1 (D.AJ 72) (D.AJ 73) ns) j) t) 8 ?_ ?_ ⟨rfl, rfl, rfl, rfl, rfl, rfl⟩
      · rintro t ht S3 _ _ _ _ _ k7 ⟨rfl, rfl, rfl, rfl, rfl, rfl⟩ hk7
        unfold wX8_checksum_b77
        have v : S3.AI (A (240 + j)) (nI t).toNatClampNeg = D.AI (240 + j) t := rd_I r0 (str_al (by omega)) (by omega) (by rw [t0.AI])
        refine if_n (nI_ge (b := 8) ht (by decide)) ⟨q4, by rw [q7]; exact in_nI ht (by decide), ?_⟩
        rw [v, ← nI_succ]
        exact hk7 _ _ _ _ _ _ ⟨rfl, rfl, rfl, rfl, rfl, rfl⟩
      · rintro S3 _ _ _ _ _ k7 ⟨rfl, rfl, rfl, rfl, rfl, rfl⟩
        unfold wX8_checksum_b77
        rw [← nI_succ]
        exact if_p (nI_le (Nat.le_refl 8) (by decide)) (hk8 _ _ _ ⟨rfl, rfl, rfl⟩)
    · rintro S2 _ _ k8 ⟨rfl, rfl, rfl⟩
      unfold wX8_checksum_b53
      rw [vnd]
      exact ⟨m_is r0, if_p (nI_le (Nat.le_refl _) (by omega)) (kk _ D0 r0 t0)⟩
theorem p_drivenShareC {Φ : Hp → UInt32 → Prop} {Ψ : Hp → String → Prop} {ns : Nat} (h : Rep A E ls nl nc nd S D) (hG : GrOK ns nl G) (hns : D.FI 461 0 = nI ns) (hdr : DrA G nl 14 5 D) (kt : ns = 0 → Ψ S "java/lang/ArithmeticException") (kk : 0 < ns → Φ S (FP.fdiv (FP.i2f (nI (cnt ns (fun s => (drv G nl s).isSome)))) (FP.i2f (nI ns)))) : wX7_drivenShare S (A 0) Φ Ψ := by
  have h14 := hG.1
  have vns : S.FI 461 (A 0) = nI ns := (rep_FI h 461 (by decide) c_al).trans hns
  unfold wX7_drivenShare wX7_drivenShare_b0
  rw [vns]
  refine ⟨c_is h, ?_⟩
  by_cases c : ns = 0
  · exact fi_p (by rw [c]; rfl) (kt c)
  · refine fi_n (fun q => c ((nI_iff (b := 0) (by omega) (by decide)).mp q)) (p_countDriven h hG hns hdr ⟨c_is h, ?_⟩)
    rw [vns]
    exact ⟨(shr_ok ns (by omega) _ (cnt_le _ _) (by omega)).1, kk (by omega)⟩
theorem t_isThrownA {Φ : Hp → Int32 → Prop} {x c : Int32} (b : Bool) (h : Rep A E ls nl nc nd S D) (hx : x = bI b) (k0 : b = false → ∀ S' D', Rep A E ls nl nc nd S' D' → Thr 0 D D' → S'.AD = S.AD → Φ S' 0) (k1 : b = true → ∀ S' D', Rep A E ls nl nc nd S' D' → Thr c D D' → S'.AD = S.AD → Φ S' 1) : wX8_isThrown S (A 70) x c Φ := by
  have go : ∀ v, (∀ S' D', Rep A E ls nl nc nd S' D' → Thr v D D' → S'.AD = S.AD → Φ S' x) → wX8_isThrown_b10 (A 70) x c Φ S (A 70) v := fun v k => by
    unfold wX8_isThrown_b10
    refine ⟨m_is h, fun S2 e2 => ⟨by rw [hx]; exact narrow_bI b, ?_⟩⟩
    have h2 := set_FI h (r := 70) (i := 549) v m_al (by decide)
    rw [← e2] at h2
    exact k S2 _ h2 ⟨samG_F ⟨rfl, rfl⟩, dtFI_s⟩ (by rw [e2]; rfl)
  unfold wX8_isThrown wX8_isThrown_b0
  cases b
  · rw [hx] at go ⊢
    exact if_p rfl (go 0 (k0 rfl))
  · rw [hx] at go ⊢
    exact if_n (by decide) (go c (k1 rfl))
theorem p_drivenShareM {Φ : Hp → UInt32 → Prop} {ns : Nat} (h : Rep A E ls nl nc nd S D) (hG : GrOK ns nl G) (hns : D.FI 543 70 = nI ns) (hdr : DrA G nl ns 79 D) (kt : ns = 0 → ∀ S' D', Rep A E ls nl nc nd S' D' → Thr 1 D D' → S'.AD = S.AD → Φ S' FP.fconst0) (kk : 0 < ns → ∀ S' D', Rep A E ls nl nc nd S' D' → Thr 0 D D' → S'.AD = S.AD → Φ S' (FP.fdiv (FP.i2f (nI (cnt ns (fun s => (drv G nl s).isSome)))) (FP.i2f (nI ns)))) : wX8_drivenShare S (A 70) Φ := by
  have h14 := hG.1
  have vns : S.FI 543 (A 70) = nI ns := (rep_FI h 543 (by decide) m_al).trans hns
  unfold wX8_drivenShare wX8_drivenShare_b0 wX8_drivenShare_b13
  rw [vns]
  refine ⟨m_is h, ?_⟩
  by_cases c : ns = 0
  · exact fi_p (by rw [c]; rfl) ⟨m_is h, t_isThrownA true h rfl (fun e => absurd e (by decide)) (fun _ S1 D1 r1 t1 a1 => if_n (by decide) (kt c S1 D1 r1 t1 a1))⟩
  · refine fi_n (fun q => c ((nI_iff (b := 0) (by omega) (by decide)).mp q)) ⟨m_is h, t_isThrownA false h rfl (fun _ S1 D1 r1 t1 a1 => if_p rfl ⟨m_is r1, ?_⟩) (fun e => absurd e (by decide))⟩
    have wns : S1.FI 543 (A 70) = nI ns := (rep_FI r1 543 (by decide) m_al).trans ((t1.FI (by decide)).trans hns)
    have a := m_arr r1 519 79 21 14
    unfold wX8_freedomNow wX8_freedomNow_b0
    refine it3_ex (fun j T b w => T = S1 ∧ w = nI j ∧ b = nI (cnt j (fun s => !(drv G nl s).isSome))) ns ?_ ?_ ⟨rfl, rfl, rfl⟩
    · rintro j hj T _ _ k9 ⟨rfl, rfl, rfl⟩ hk9
      unfold wX8_freedomNow_b4 wX8_freedomNow_b28
      rw [wns]
      refine ⟨m_is r1, if_n (nI_ge hj (by omega)) ⟨A 79, a.1, a.2.1, by rw [a.2.2]; exact in_nI (by omega) (by decide), ?_⟩⟩
      have w : T.AI (A 79) (nI j).toNatClampNeg = match drv G nl j with | none => -1 | some k => nI k := rd_I r1 (al_s (by decide)) (by omega) (by rw [t1.AI]; exact hdr j hj)
      rw [w]
      cases e : drv G nl j with
      | none =>
        refine fi_p rfl ?_
        rw [← nI_succ, ← nI_succ]
        refine hk9 _ _ _ ⟨rfl, rfl, ?_⟩
        show nI (cnt j _ + 1) = nI (cnt j _ + (if (!(drv G nl j).isSome) = true then 1 else 0))
        rw [e]
        rfl
      | some k =>
        have hk := (drv_some e).1
        refine fi_n (nI_nm (by have := hG.2.1; omega)) ?_
        rw [← nI_succ, Int32.add_zero]
        refine hk9 _ _ _ ⟨rfl, rfl, ?_⟩
        show nI (cnt j _) = nI (cnt j _ + (if (!(drv G nl j).isSome) = true then 1 else 0))
        rw [e]
        rfl
    · rintro T _ _ k9 ⟨rfl, rfl, rfl⟩
      unfold wX8_freedomNow_b4
      rw [wns]
      refine ⟨m_is r1, if_p (nI_le (Nat.le_refl _) (by omega)) ⟨m_is r1, ?_⟩⟩
      have e := cnt_not (fun s => (drv G nl s).isSome) ns
      rw [wns, nI_sub (by omega)]
      rw [show ns - cnt ns (fun s => !(drv G nl s).isSome) = cnt ns (fun s => (drv G nl s).isSome) by omega]
      exact ⟨(shr_ok ns (by omega) _ (cnt_le _ _) (by omega)).1, kk (by omega) _ D1 r1 t1 a1⟩
theorem p_meanWornC {Φ : Hp → UInt64 → Prop} {Ψ : Hp → String → Prop} (h : Rep A E ls nl nc nd S D) (hls : ls 0 = (List.range nl).map (fun k => A (400 + k))) (h14 : nl ≤ 14) (hW : WrOK nl (D.AJ 32) (D.AJ 33)) (kt : nl = 0 → Ψ S "java/lang/ArithmeticException") (kk : 0 < nl → Φ S (FP.ddiv (mwS (D.AJ 32) (D.AJ 33) nl) (FP.i2d (nI nl)))) : wX7_meanWorn S (A 0) Φ Ψ := by
  unfold wX7_meanWorn wX7_meanWorn_b0
  refine ⟨c_is h, A (1 + 0), rep_fr h (448, 0, 1) (by decide), ls_is h (by decide), p_isEmpty h (j := 0) (by decide) (by rw [lnk_len hls]; omega) (fun q => if_p rfl ?_) (fun q => if_n (by decide) (kt (by rw [lnk_len hls] at q; exact q)))⟩
  rw [lnk_len hls] at q
  refine it3_ex (fun j S1 a v => S1 = S ∧ v = nI j ∧ a = mwS (D.AJ 32) (D.AJ 33) j) nl ?_ ?_ ⟨rfl, rfl, rfl⟩
  · rintro j hj S1 _ _ k9 ⟨rfl, rfl, rfl⟩ hk9
    unfold wX7_meanWorn_b25
    refine ⟨c_is h, A (1 + 0), rep_fr h (448, 0, 1) (by decide), ls_is h (by decide), p_size h (j := 0) (by decide) (if_n ?_ ⟨c_is h, A 10, rep_fr h (457, 0, 10) (by decide), (row_ h (p := 1) (by decide)).1, p_overAt (p := 1) h (by decide) (by show j < 16; omega) ⟨c_is h, A 10, rep_fr h (457, 0, 10) (by decide), (row_ h (p := 1) (by decide)).1, p_underAt (p := 1) h (by decide) (by show j < 16; omega) ⟨n64_of (nng_nn (wr_q hW hj)), n64_of (nng_nn (nng_add (wr_s hW j (by omega)) (wr_q hW hj))), ?_⟩⟩⟩)⟩
    · rw [lnk_len hls]
      exact nI_ge hj (by omega)
    · rw [← nI_succ]
      exact hk9 _ _ _ ⟨rfl, rfl, rfl⟩
  · rintro S1 _ _ k9 ⟨rfl, rfl, rfl⟩
    unfold wX7_meanWorn_b25
    refine ⟨c_is h, A (1 + 0), rep_fr h (448, 0, 1) (by decide), ls_is h (by decide), p_size h (j := 0) (by decide) (if_p ?_ ⟨c_is h, A (1 + 0), rep_fr h (448, 0, 1) (by decide), ls_is h (by decide), p_size h (j := 0) (by decide) ?_⟩)⟩
    · rw [lnk_len hls]
      exact nI_le (Nat.le_refl _) (by omega)
    · rw [lnk_len hls]
      exact ⟨n64_of (nng_nn (nng_div (wr_s hW nl (Nat.le_refl _)) (pfin_i2d (by omega) (by omega)))), kk (by omega)⟩
theorem p_meanWornM {Φ : Hp → UInt64 → Prop} {n : Nat} (h : Rep A E ls nl nc nd S D) (hn : D.FI 544 70 = nI n) (h14 : n ≤ 14) (hW : WrOK n (D.AJ 91) (D.AJ 92)) (kt : n = 0 → ∀ S' D', Rep A E ls nl nc nd S' D' → Thr 1 D D' → S'.AD = S.AD → Φ S' FP.dconst0) (kk : 0 < n → ∀ S' D', Rep A E ls nl nc nd S' D' → Thr 0 D D' → S'.AD = S.AD → Φ S' (FP.ddiv (mwS (D.AJ 91) (D.AJ 92) n) (FP.i2d (nI n)))) : wX8_meanWorn S (A 70) Φ := by
  have vn : S.FI 544 (A 70) = nI n := (rep_FI h 544 (by decide) m_al).trans hn
  unfold wX8_meanWorn wX8_meanWorn_b0 wX8_meanWorn_b13
  rw [vn]
  refine ⟨m_is h, ?_⟩
  by_cases c : n = 0
  · exact fi_p (by rw [c]; rfl) ⟨m_is h, t_isThrownA true h rfl (fun e => absurd e (by decide)) (fun _ S1 D1 r1 t1 a1 => if_n (by decide) (kt c S1 D1 r1 t1 a1))⟩
  · refine fi_n (fun q => c ((nI_iff (b := 0) (by omega) (by decide)).mp q)) ⟨m_is h, t_isThrownA false h rfl (fun _ S1 D1 r1 t1 a1 => if_p rfl ?_) (fun e => absurd e (by decide))⟩
    have wn : S1.FI 544 (A 70) = nI n := (rep_FI r1 544 (by decide) m_al).trans ((t1.FI (by decide)).trans hn)
    have a91 := m_arr r1 531 91 22 16
    have a92 := m_arr r1 532 92 22 16
    refine it3_ex (fun j T a v => T = S1 ∧ v = nI j ∧ a = mwS (D.AJ 91) (D.AJ 92) j) n ?_ ?_ ⟨rfl, rfl, rfl⟩
    · rintro j hj T _ _ k9 ⟨rfl, rfl, rfl⟩ hk9
      unfold wX8_meanWorn_b26
      rw [wn]
      have j16 : ∀ m, m = 16 → vp_in (nI j) m := fun m e => by
        rw [e]
        exact in_nI (by omega) (by decide)
      have v91 : T.AJ (A 91) (nI j).toNatClampNeg = D.AJ 91 j := rd_J r1 (al_s (by decide)) (by omega) (by rw [t1.AJ])
      have v92 : T.AJ (A 92) (nI j).toNatClampNeg = D.AJ 92 j := rd_J r1 (al_s (by decide)) (by omega) (by rw [t1.AJ])
      refine ⟨m_is r1, if_n (nI_ge hj (by omega)) ⟨A 91, a91.1, a91.2.1, j16 _ a91.2.2, A 92, a92.1, a92.2.1, j16 _ a92.2.2, ?_⟩⟩
      rw [v91, v92, ← nI_succ]
      exact ⟨n64_of (nng_nn (wr_q hW hj)), n64_of (nng_nn (nng_add (wr_s hW j (by omega)) (wr_q hW hj))), hk9 _ _ _ ⟨rfl, rfl, rfl⟩⟩
    · rintro T _ _ k9 ⟨rfl, rfl, rfl⟩
      unfold wX8_meanWorn_b26
      rw [wn]
      exact ⟨m_is r1, if_p (nI_le (Nat.le_refl _) (by omega)) ⟨n64_of (nng_nn (nng_div (wr_s hW n (Nat.le_refl _)) (pfin_i2d (by omega) (by omega)))), kk (by omega) _ D1 r1 t1 a1⟩⟩
end SU9
