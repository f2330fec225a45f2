/-! HEIGHTS, STEEPNESS: calls of the class, and the reference -/
section HD9
variable {A E : Nat → Nat} {ls : Nat → List Nat} {nl nc nd : Nat} {S : Hp} {D : Dt}
theorem p_heightOverC {Φ : Hp → Int64 → Prop} {Ψ : Hp → String → Prop} {ns n : Nat} {x1 : Int32} {K : Nat → Cm} {G : Nat → Nat → Nat} {P : Nat → Rat} (h : Rep A E ls nl nc nd S D) (hG : GrOK ns nl G) (hls : ls 2 = (List.range nc).map (fun c => A (500 + 5 * c))) (h8 : nc ≤ 8) (hx : ∀ c, c < nc → CmC (K c) c D ∧ CmK ns (K c)) (hP : RowV D 2 14 P) (hB : BdP G nl n P) (hn : n ≤ 24600)
    (kt1 : ¬ inR x1 nc → Ψ S "java/lang/IndexOutOfBoundsException") (kt2 : ∀ c, c < nc → x1 = nI c → sumN (cmL (K c)) (cmN (K c)) ≠ 24 → Ψ S "java/lang/UnsupportedOperationException")
    (kk : ∀ c q S', c < nc → x1 = nI c → sumN (cmL (K c)) (cmN (K c)) = 24 → HtQ (K c) (prt P (cmS (K c))) q → Rep A E ls nl nc nd S' D → Φ S' (i6 q.num)) : wX7_heightOver S (A 0) x1 Φ Ψ := by
  unfold wX7_heightOver wX7_heightOver_b0
  refine ⟨c_is h, p_wholeCamAt h hls h8 hx kt1 kt2 (fun c hc e cs => ⟨_, rfl, c_is h, p_heightNow h hG hc (by omega) (hx c hc).1 (hx c hc).2 cs hP hB hn (fun S' a q r' hq fq => ⟨a, rfl, fq.1, ?_⟩)⟩)⟩
  rw [fq.2.1]
  exact kk c q S' hc e cs hq r'
theorem p_heightUnderC {Φ : Hp → Int64 → Prop} {Ψ : Hp → String → Prop} {ns n : Nat} {x1 : Int32} {K : Nat → Cm} {G : Nat → Nat → Nat} {P : Nat → Rat} (h : Rep A E ls nl nc nd S D) (hG : GrOK ns nl G) (hls : ls 2 = (List.range nc).map (fun c => A (500 + 5 * c))) (h8 : nc ≤ 8) (hx : ∀ c, c < nc → CmC (K c) c D ∧ CmK ns (K c)) (hP : RowV D 2 14 P) (hB : BdP G nl n P) (hn : n ≤ 24600)
    (kt1 : ¬ inR x1 nc → Ψ S "java/lang/IndexOutOfBoundsException") (kt2 : ∀ c, c < nc → x1 = nI c → sumN (cmL (K c)) (cmN (K c)) ≠ 24 → Ψ S "java/lang/UnsupportedOperationException")
    (kk : ∀ c q S', c < nc → x1 = nI c → sumN (cmL (K c)) (cmN (K c)) = 24 → HtQ (K c) (prt P (cmS (K c))) q → Rep A E ls nl nc nd S' D → Φ S' (i6 q.den)) : wX7_heightUnder S (A 0) x1 Φ Ψ := by
  unfold wX7_heightUnder wX7_heightUnder_b0
  refine ⟨c_is h, p_wholeCamAt h hls h8 hx kt1 kt2 (fun c hc e cs => ⟨_, rfl, c_is h, p_heightNow h hG hc (by omega) (hx c hc).1 (hx c hc).2 cs hP hB hn (fun S' a q r' hq fq => ⟨a, rfl, fq.1, ?_⟩)⟩)⟩
  rw [fq.2.2]
  exact kk c q S' hc e cs hq r'
theorem p_steepOverC {Φ : Hp → Int64 → Prop} {Ψ : Hp → String → Prop} {ns : Nat} {x1 : Int32} {K : Nat → Cm} (h : Rep A E ls nl nc nd S D) (hls : ls 2 = (List.range nc).map (fun c => A (500 + 5 * c))) (h8 : nc ≤ 8) (hx : ∀ c, c < nc → CmC (K c) c D ∧ CmK ns (K c))
    (kt1 : ¬ inR x1 nc → Ψ S "java/lang/IndexOutOfBoundsException") (kt2 : ∀ c, c < nc → x1 = nI c → sumN (cmL (K c)) (cmN (K c)) ≠ 24 → Ψ S "java/lang/UnsupportedOperationException")
    (kk : ∀ c S', c < nc → x1 = nI c → sumN (cmL (K c)) (cmN (K c)) = 24 → Rep A E ls nl nc nd S' D → Φ S' (i6 (stq (K c)).num)) : wX7_steepOver S (A 0) x1 Φ Ψ := by
  unfold wX7_steepOver wX7_steepOver_b0
  refine ⟨c_is h, p_wholeCamAt h hls h8 hx kt1 kt2 (fun c hc e cs => ⟨_, rfl, (cam_ h hc (by omega)).1, p_steepest h hc (by omega) (hx c hc).1 (hx c hc).2 (fun S' a r' fq => ⟨a, rfl, fq.1, ?_⟩)⟩)⟩
  rw [fq.2.1]
  exact kk c S' hc e cs r'
theorem p_steepUnderC {Φ : Hp → Int64 → Prop} {Ψ : Hp → String → Prop} {ns : Nat} {x1 : Int32} {K : Nat → Cm} (h : Rep A E ls nl nc nd S D) (hls : ls 2 = (List.range nc).map (fun c => A (500 + 5 * c))) (h8 : nc ≤ 8) (hx : ∀ c, c < nc → CmC (K c) c D ∧ CmK ns (K c))
    (kt1 : ¬ inR x1 nc → Ψ S "java/lang/IndexOutOfBoundsException") (kt2 : ∀ c, c < nc → x1 = nI c → sumN (cmL (K c)) (cmN (K c)) ≠ 24 → Ψ S "java/lang/UnsupportedOperationException")
    (kk : ∀ c S', c < nc → x1 = nI c → sumN (cmL (K c)) (cmN (K c)) = 24 → Rep A E ls nl nc nd S' D → Φ S' (i6 (stq (K c)).den)) : wX7_steepUnder S (A 0) x1 Φ Ψ := by
  unfold wX7_steepUnder wX7_steepUnder_b0
  refine ⟨c_is h, p_wholeCamAt h hls h8 hx kt1 kt2 (fun c hc e cs => ⟨_, rfl, (cam_ h hc (by omega)).1, p_steepest h hc (by omega) (hx c hc).1 (hx c hc).2 (fun S' a r' fq => ⟨a, rfl, fq.1, ?_⟩)⟩)⟩
  rw [fq.2.2]
  exact kk c S' hc e cs r'
theorem p_isNotWhole {Φ : Hp → Int32 → Prop} {ns n : Nat} {x1 : Int32} {K : Nat → Cm} (h : Rep A E ls nl nc nd S D) (hn : D.FI 545 70 = nI n) (h8 : n ≤ 8) (hx : ∀ c, c < n → CmM (K c) c D ∧ CmK ns (K c))
    (kt1 : ¬ inR x1 n → ∀ S' D', Rep A E ls nl nc nd S' D' → Thr 1 D D' → Φ S' 1) (kt2 : ∀ c, c < n → x1 = nI c → sumN (cmL (K c)) (cmN (K c)) ≠ 24 → ∀ S' D', Rep A E ls nl nc nd S' D' → Thr 2 D D' → Φ S' 1)
    (kk : ∀ c, c < n → x1 = nI c → sumN (cmL (K c)) (cmN (K c)) = 24 → ∀ S' D', Rep A E ls nl nc nd S' D' → Thr 0 D D' → Φ S' 0) : wX8_isNotWhole S (A 70) x1 Φ := by
  unfold wX8_isNotWhole wX8_isNotWhole_b0 wX8_isNotWhole_b36 wX8_isNotWhole_b29
  refine ⟨m_is h, g_C h hn (by omega) (fun c hc e S1 D1 r1 t1 => fi_p rfl ⟨m_is r1, ?_⟩) (fun q S1 D1 r1 t1 => fi_n (by decide) (kt1 q S1 D1 r1 t1))⟩
  obtain ⟨hC, hK⟩ := hx c hc
  have sm := hK.2.1
  rw [e]
  refine p_partsOf r1 (by omega) (cmM_thr hC t1) hK ?_
  by_cases cs : sumN (cmL (K c)) (cmN (K c)) = 24
  · exact if_p (by rw [cs]; rfl) (g_0 r1 t1 (fun S2 D2 r2 t2 => if_p rfl (kk c hc e cs S2 D2 r2 t2)))
  · exact if_n (fun q => cs ((nI_iff (b := 24) (by omega) (by decide)).mp q)) (g_1 r1 t1 (fun S2 D2 r2 t2 => if_n (by decide) (kt2 c hc e cs S2 D2 r2 t2)))
/-- an element of a cam's row, read -/
theorem rd_cam (h : Rep A E ls nl nc nd S D) {c i : Nat} {x : Cm} (hc : c < 8) (hi : i < cmN x) (hi24 : i < 24) (hx : CmM x c D) : (∀ {K9 : Int32 → Prop}, K9 (nI (cmL x i)) → ∃ a5, S.FR 536 (A 70) = some a5 ∧ isA S a5 26 ∧ vp_in (nI c) (S.N a5) ∧ ∃ a8, S.AR a5 (nI c).toNatClampNeg = some a8 ∧ isA S a8 21 ∧ vp_in (nI i) (S.N a8) ∧ K9 (S.AI a8 (nI i).toNatClampNeg)) ∧ (∀ {K9 : Int32 → Prop}, K9 (nI (cmH x i)) → ∃ a5, S.FR 537 (A 70) = some a5 ∧ isA S a5 26 ∧ vp_in (nI c) (S.N a5) ∧ ∃ a8, S.AR a5 (nI c).toNatClampNeg = some a8 ∧ isA S a8 21 ∧ vp_in (nI i) (S.N a8) ∧ K9 (S.AI a8 (nI i).toNatClampNeg)) ∧ (∀ {K9 : Int32 → Prop}, K9 (nI (cmW x i)) → ∃ a5, S.FR 538 (A 70) = some a5 ∧ isA S a5 27 ∧ vp_in (nI c) (S.N a5) ∧ ∃ a8, S.AR a5 (nI c).toNatClampNeg = some a8 ∧ isA S a8 20 ∧ vp_in (nI i) (S.N a8) ∧ K9 (S.AI a8 (nI i).toNatClampNeg)) := by
  have a96 := m_arr h 536 96 26 8
  have a97 := m_arr h 537 97 26 8
  have a98 := m_arr h 538 98 27 8
  obtain ⟨f1, f2, f3, -, g1, g2, g3, -, n1, n2, n3, -⟩ := rw_ h hc
  obtain ⟨l1, l2, l3, l4⟩ := rw_al (nl := nl) (nc := nc) (nd := nd) hc
  obtain ⟨y1, y2, y3⟩ := hx.2.2.1 i hi
  have v1 : S.AI (A (200 + c)) (nI i).toNatClampNeg = nI (cmL x i) := rd_I h l1 (by omega) y1
  have v2 : S.AI (A (210 + c)) (nI i).toNatClampNeg = nI (cmH x i) := rd_I h l2 (by omega) y2
  have v3 : S.AI (A (220 + c)) (nI i).toNatClampNeg = nI (cmW x i) := rd_I h l3 (by omega) y3
  have c8 : ∀ n, n = 8 → vp_in (nI c) n := fun n e => by
    rw [e]
    exact in_nI hc (by decide)
  have i24 : ∀ n, n = 24 → vp_in (nI i) n := fun n e => by
    rw [e]
    exact in_nI hi24 (by decide)
  have cc : (nI c).toNatClampNeg = c := cl_nI (by omega)
  refine ⟨fun k => ⟨A 96, a96.1, a96.2.1, c8 _ a96.2.2, _, by rw [cc]; exact f1, g1, i24 _ n1, ?_⟩, fun k => ⟨A 97, a97.1, a97.2.1, c8 _ a97.2.2, _, by rw [cc]; exact f2, g2, i24 _ n2, ?_⟩, fun k => ⟨A 98, a98.1, a98.2.1, c8 _ a98.2.2, _, by rw [cc]; exact f3, g3, i24 _ n3, ?_⟩⟩
  · rw [v1]
    exact k
  · rw [v2]
    exact k
  · rw [v3]
    exact k
theorem p_before {Φ : Hp → Int32 → Prop} {ns c i : Nat} {x : Cm} (h : Rep A E ls nl nc nd S D) (hc : c < 8) (hx : CmM x c D) (hK : CmK ns x) (hi : i < cmN x) (kk : Φ S (nI (cmB x i))) : wX8_before S (A 70) (nI c) (nI i) Φ := by
  have n24 := cmK_n hK
  have a97 := m_arr h 537 97 26 8
  have a95 := m_arr h 535 95 21 8
  obtain ⟨-, f2, -, -, -, g2, -, -, -, n2, -, -⟩ := rw_ h hc
  obtain ⟨l1, l2, l3, l4⟩ := rw_al (nl := nl) (nc := nc) (nd := nd) hc
  have c8 : ∀ n, n = 8 → vp_in (nI c) n := fun n e => by
    rw [e]
    exact in_nI hc (by decide)
  have cc : (nI c).toNatClampNeg = c := cl_nI (by omega)
  have go : ∀ j, j < cmN x → vp_in (nI j) (S.N (A (210 + c))) ∧ S.AI (A (210 + c)) (nI j).toNatClampNeg = nI (cmH x j) := fun j hj => ⟨by rw [n2]; exact in_nI (by omega) (by decide), rd_I h l2 (by omega) (hx.2.2.1 j hj).2.1⟩
  unfold wX8_before wX8_before_b0
  unfold cmB at kk
  rw [cc]
  refine ⟨m_is h, A 97, a97.1, a97.2.1, c8 _ a97.2.2, _, f2, ?_⟩
  by_cases c0 : i = 0
  · rw [if_pos c0] at kk
    have v95 : S.AI (A 95) c = nI (cmN x) := (rep_AI h c (al_s (by decide))).trans hx.2.1
    refine fi_p (by rw [c0]; rfl) ⟨A 95, a95.1, a95.2.1, c8 _ a95.2.2, g2, ?_⟩
    rw [v95, wI_p (by omega)]
    obtain ⟨w1, w2⟩ := go (cmN x - 1) (by omega)
    refine ⟨w1, ?_⟩
    rw [w2]
    exact kk
  · rw [if_neg c0] at kk
    rw [wI_p c0]
    obtain ⟨w1, w2⟩ := go (i - 1) (by omega)
    refine fi_n (fun q => c0 ((nI_iff (b := 0) (by omega) (by decide)).mp q)) ⟨g2, w1, ?_⟩
    rw [w2]
    exact kk
theorem q_sum1 {a c : Int} {d : Nat} (hd : 0 < d) : Rat.divInt a ((1 : Nat) : Int) + Rat.divInt c (d : Int) = Rat.divInt (a * (d : Int) + c) (d : Int) := by
  rw [Rat.divInt_add_divInt _ _ (by decide) (by omega)]
  congr 1
  · rw [show ((1 : Nat) : Int) = 1 from rfl, Int.mul_one]
  · rw [show ((1 : Nat) : Int) = 1 from rfl, Int.one_mul]
theorem t_sum1 {Φ : Hp → Prop} {a c : Int} {d : Nat} (h : Rep A E ls nl nc nd S D) (hd : 0 < d) (hd2 : d ≤ 100000) (ha : a.natAbs ≤ 100000) (hc : c.natAbs ≤ 100000000) (k : ∀ S' D', Rep A E ls nl nc nd S' D' → SamT D D' → TopQ D' (Rat.divInt (a * (d : Int) + c) (d : Int)) → Φ S') : wX8_sum S (A 70) (i6 a) 1 (i6 c) (i6 (d : Int)) Φ := by
  have e1 : (1 : Int64) = i6 ((1 : Nat) : Int) := rfl
  have m1 : a.natAbs * d ≤ 100000 * 100000 := Nat.mul_le_mul ha hd2
  rw [e1]
  refine t_sum (M := d) (B1 := a.natAbs * d) (B2 := c.natAbs) h ⟨by decide, d, (Nat.one_mul _).symm, Nat.le_refl _⟩ ⟨hd, 1, (Nat.mul_one _).symm, by rw [Nat.mul_one]; exact Nat.le_refl _⟩ hd (by omega) (by omega) (fun S' D' r' t' q' => k S' D' r' t' ?_)
  rw [q_sum1 hd] at q'
  exact q'
theorem p_heightM {Φ : Hp → Int64 → Prop} {ns n m : Nat} {x1 : Int32} {ov : Bool} {K : Nat → Cm} {G : Nat → Nat → Nat} {P : Nat → Rat} (h : Rep A E ls nl nc nd S D) (hG : GrOK ns nl G) (hn : D.FI 545 70 = nI n) (h8 : n ≤ 8) (hx : ∀ c, c < n → CmM (K c) c D ∧ CmK ns (K c)) (hP : MR D 72 ns P) (hB : BdP G nl m P) (hm : m ≤ 24600)
    (kt1 : ¬ inR x1 n → ∀ S' D', Rep A E ls nl nc nd S' D' → Thr 1 D D' → Φ S' 0) (kt2 : ∀ c, c < n → x1 = nI c → sumN (cmL (K c)) (cmN (K c)) ≠ 24 → ∀ S' D', Rep A E ls nl nc nd S' D' → Thr 2 D D' → Φ S' 0)
    (kk : ∀ c q, c < n → x1 = nI c → sumN (cmL (K c)) (cmN (K c)) = 24 → HtQ (K c) (prt P (cmS (K c))) q → ∀ S' D', Rep A E ls nl nc nd S' D' → Thr 0 D D' → Φ S' (pick ov q)) : wX8_height S (A 70) x1 (bI ov) Φ := by
  unfold wX8_height wX8_height_b0
  refine ⟨m_is h, p_isNotWhole h hn h8 hx (fun q S1 D1 r1 t1 => if_n (by decide) (kt1 q S1 D1 r1 t1)) (fun c hc e cs S1 D1 r1 t1 => if_n (by decide) (kt2 c hc e cs S1 D1 r1 t1)) (fun c hc e cs S1 D1 r1 t1 => if_p rfl ⟨m_is r1, ?_⟩)⟩
  obtain ⟨hC, hK⟩ := hx c hc
  have hC1 := cmM_thr hC t1
  have hs := hK.1
  have h14 := hG.1
  have n24 := cmK_n hK
  subst e
  have c8' : c < 8 := by omega
  have cc : (nI c).toNatClampNeg = c := cl_nI (by omega)
  have c8 : ∀ n, n = 8 → vp_in (nI c) n := fun n e => by
    rw [e]
    exact in_nI c8' (by decide)
  have a94 := m_arr r1 534 94 21 8
  have a72 := m_arr r1 512 72 22 14
  have a73 := m_arr r1 513 73 22 14
  have v94 : S1.AI (A 94) (nI c).toNatClampNeg = nI (cmS (K c)) := rd_I r1 (al_s (by decide)) (by omega) hC1.1
  have s14 : ∀ n, n = 14 → vp_in (nI (cmS (K c))) n := fun n e => by
    rw [e]
    exact in_nI (by omega) (by decide)
  have ePf := hP (cmS (K c)) hs
  have v72 : S1.AJ (A 72) (nI (cmS (K c))).toNatClampNeg = i6 (P (cmS (K c))).num := rd_J r1 (al_s (by decide)) (by omega) (by rw [t1.AJ]; exact ePf.1)
  have v73 : S1.AJ (A 73) (nI (cmS (K c))).toNatClampNeg = i6 (P (cmS (K c))).den := rd_J r1 (al_s (by decide)) (by omega) (by rw [t1.AJ]; exact ePf.2)
  refine ⟨A 94, a94.1, a94.2.1, c8 _ a94.2.2, A 72, a72.1, a72.2.1, ?_⟩
  rw [v94]
  refine ⟨s14 _ a72.2.2, A 73, a73.1, a73.2.1, s14 _ a73.2.2, ?_⟩
  rw [v72, v73]
  obtain ⟨M1, M2, M3⟩ := pm_lt hG (cmS (K c))
  have q1 := qn_le M3 hm
  have bq := bd_bq M1 (hB (cmS (K c)))
  have rg := bq_rg bq M1 M2 (by omega) 24 (by decide)
  have lim := fl_lim bq M1 (by omega)
  refine p_floor (t := 24) (by rw [Int.mul_comm]; exact rg.2.2.2) rg.2.1 ?_
  refine p_floorMod (n := fl 24 (P (cmS (K c)))) (d := 24) (by unfold Rg; omega) rg_24 (by decide) ?_
  rw [prt_e]
  have lt := prt_lt P (cmS (K c))
  obtain ⟨i, i1, i2, i3⟩ := sg_ex (f := cmL (K c)) (part := prt P (cmS (K c))) (cmN (K c)) (by omega)
  refine it3_ex (fun j T a v => T = S1 ∧ v = nI j ∧ a = i6 ((prt P (cmS (K c)) - sumN (cmL (K c)) j : Nat) : Int)) i ?_ ?_ ⟨rfl, rfl, rfl⟩
  · rintro j hj T _ _ k9 ⟨rfl, rfl, rfl⟩ hk9
    have mono := sumN_mono (f := cmL (K c)) (m := j + 1) i (by omega)
    rw [sumN_s] at mono
    have hL := cmK_l hK (j := j) (by omega)
    have rc := rd_cam r1 c8' (show j < cmN (K c) by omega) (by omega) hC1
    unfold wX8_height_b46
    refine ⟨m_is r1, rc.1 (K9 := fun y => (lg_cmp (i6 ((prt P (cmS (K c)) - sumN (cmL (K c)) j : Nat) : Int)) y.toInt64 < 0 → _) ∧ (¬ lg_cmp (i6 ((prt P (cmS (K c)) - sumN (cmL (K c)) j : Nat) : Int)) y.toInt64 < 0 → _)) ?_⟩
    rw [nI64 (by omega)]
    refine if_n (fun q => by have := (cmp_lt (rg_n (by omega)) (rg_n (by omega))).mp q; omega) ?_
    refine rc.1 (K9 := fun y => k9 T (i6 ((prt P (cmS (K c)) - sumN (cmL (K c)) j : Nat) : Int) - y.toInt64) (nI j + 1)) ?_
    rw [nI64 (by omega), i6_sub, ← nI_succ]
    refine hk9 _ _ _ ⟨rfl, rfl, ?_⟩
    rw [sumN_s]
    congr 1
    omega
  · rintro T _ _ k9 ⟨rfl, rfl, rfl⟩
    have hL := cmK_l hK i1
    obtain ⟨hL1, hH, hW⟩ := hK.2.2.1 i i1
    have hBi := cmB_le hK i1
    have rc := rd_cam r1 c8' i1 (by omega) hC1
    rw [sumN_s] at i3
    have bL : prt P (cmS (K c)) - sumN (cmL (K c)) i < cmL (K c) i := by omega
    have hq : HtQ (K c) (prt P (cmS (K c))) (hgt (K c) i (prt P (cmS (K c)) - sumN (cmL (K c)) i)) := ⟨i, i1, i2, by rw [sumN_s]; omega, rfl⟩
    have fin : ∀ S' D', Rep A E ls nl nc nd S' D' → SamT D1 D' → TopQ D' (hgt (K c) i (prt P (cmS (K c)) - sumN (cmL (K c)) i)) → wX8_height_b225 (A 70) (nI c) (bI ov) Φ S' := fun S' D' r' t' q' => by
      unfold wX8_height_b225
      obtain ⟨o1, o2⟩ := m_top r' q'
      rw [o1, o2]
      have z := kk c _ hc rfl cs hq S' D' r' (t1.T t')
      cases ov with
      | true => exact if_n (by decide) ⟨m_is r', z⟩
      | false => exact if_p rfl ⟨m_is r', z⟩
    have gb := hgon_b hK i1 (show prt P (cmS (K c)) - sumN (cmL (K c)) i ≤ cmL (K c) i by omega)
    have db := hden_b hK i1
    generalize prt P (cmS (K c)) - sumN (cmL (K c)) i = b at *
    unfold wX8_height_b46
    refine ⟨m_is r1, rc.1 (K9 := fun y => (lg_cmp (i6 (b : Int)) y.toInt64 < 0 → _) ∧ (¬ lg_cmp (i6 (b : Int)) y.toInt64 < 0 → _)) ?_⟩
    rw [nI64 (by omega)]
    refine if_p ((cmp_lt (rg_n (by omega)) (rg_n (by omega))).mpr (by omega)) ?_
    have a96 := m_arr r1 536 96 26 8
    have a97 := m_arr r1 537 97 26 8
    have a98 := m_arr r1 538 98 27 8
    obtain ⟨f1, f2, f3, -, g1, g2, g3, -, n1, n2, n3, -⟩ := rw_ r1 c8'
    obtain ⟨l1, l2, l3, l4⟩ := rw_al (nl := nl) (nc := nc) (nd := nd) c8'
    obtain ⟨y1, y2, y3⟩ := hC1.2.2.1 i i1
    have v1 : T.AI (A (200 + c)) (nI i).toNatClampNeg = nI (cmL (K c) i) := rd_I r1 l1 (by omega) y1
    have v2 : T.AI (A (210 + c)) (nI i).toNatClampNeg = nI (cmH (K c) i) := rd_I r1 l2 (by omega) y2
    have v3 : T.AI (A (220 + c)) (nI i).toNatClampNeg = nI (cmW (K c) i) := rd_I r1 l3 (by omega) y3
    have i24 : ∀ n, n = 24 → vp_in (nI i) n := fun n e => by
      rw [e]
      exact in_nI (by omega) (by decide)
    rw [cc]
    refine ⟨A 96, a96.1, a96.2.1, c8 _ a96.2.2, _, f1, g1, i24 _ n1, p_before r1 c8' hC1 hK i1 ⟨m_is r1, A 97, a97.1, a97.2.1, c8 _ a97.2.2, _, f2, g2, i24 _ n2, A 98, a98.1, a98.2.1, c8 _ a98.2.2, _, f3, g3, i24 _ n3, ?_⟩⟩
    rw [v1, v2, v3, nI64 (by omega), nI64 (by omega), nI64 (by omega)]
    have h2 : ((cmH (K c) i : Int) - cmB (K c) i).natAbs ≤ 99 := by omega
    have qq : ∀ z : Int, z.natAbs ≤ 2304 → (((cmH (K c) i : Int) - cmB (K c) i) * z).natAbs ≤ 99 * 2304 := fun z hz => by
      rw [Int.natAbs_mul]
      exact Nat.mul_le_mul h2 hz
    by_cases cw : cmW (K c) i = 117
    · refine fi_p (by rw [cw]; rfl) ?_
      have eg : hgon (K c) i b = (b : Int) := if_pos cw
      have ed : hden (K c) i = cmL (K c) i := if_pos cw
      rw [i6_sub, i6_mul]
      refine t_sum1 r1 hL1 (by omega) (by omega) (by have := qq (b : Int) (by omega); omega) (fun S' D' r' t' q' => fin S' D' r' t' ?_)
      unfold hgt hnum
      rw [eg, ed]
      exact q'
    · have w112 : cmW (K c) i = 112 := hW.resolve_left cw
      have ed : hden (K c) i = cmL (K c) i * cmL (K c) i := if_neg cw
      have edz : ((cmL (K c) i : Int) * (cmL (K c) i : Int)) = ((hden (K c) i : Nat) : Int) := by
        rw [ed, Int.natCast_mul]
      refine fi_n (by rw [w112]; decide) ?_
      rw [i6_2, i6_mul, i6_sub]
      have cmp := cmp_gt (a := 2 * (b : Int)) (b := (cmL (K c) i : Int)) (by unfold Rg; omega) (rg_n (by omega))
      by_cases c2 : 2 * b ≤ cmL (K c) i
      · have eg : hgon (K c) i b = 2 * (b : Int) * b := by
          unfold hgon
          rw [if_neg cw, if_pos c2]
        refine if_n (fun q => by have := cmp.mp q; omega) ?_
        rw [i6_mul, i6_mul, i6_mul, i6_mul, edz]
        have es : ((cmH (K c) i : Int) - cmB (K c) i) * 2 * (b : Int) * (b : Int) = ((cmH (K c) i : Int) - cmB (K c) i) * hgon (K c) i b := by
          rw [eg, Int.mul_assoc, Int.mul_assoc, Int.mul_assoc 2]
        rw [es]
        exact t_sum1 r1 db.1 (by omega) (by omega) (by have := qq _ gb; omega) (fun S' D' r' t' q' => fin S' D' r' t' q')
      · have eg : hgon (K c) i b = (cmL (K c) i : Int) * cmL (K c) i - 2 * ((cmL (K c) i : Int) - b) * ((cmL (K c) i : Int) - b) := by
          unfold hgon
          rw [if_neg cw, if_neg c2]
        refine if_p (cmp.mpr (by omega)) ?_
        rw [i6_add, i6_neg, i6_mul, i6_sub, i6_mul, i6_mul, i6_mul, edz]
        have q3 : (2 * ((cmL (K c) i : Int) - b) * ((cmL (K c) i : Int) - b)).natAbs ≤ 48 * 48 := sq_le (by omega) (by omega)
        have es : -((cmH (K c) i : Int) - cmB (K c) i) * 2 * ((cmL (K c) i : Int) - b) * ((cmL (K c) i : Int) - b) = -(((cmH (K c) i : Int) - cmB (K c) i) * (2 * ((cmL (K c) i : Int) - b) * ((cmL (K c) i : Int) - b))) := by
          rw [Int.neg_mul, Int.neg_mul, Int.neg_mul, Int.mul_assoc, Int.mul_assoc, Int.mul_assoc 2]
        rw [es]
        refine t_sum1 r1 db.1 (by omega) (by omega) (by have := qq _ q3; omega) (fun S' D' r' t' q' => fin S' D' r' t' ?_)
        have ee : hnum (K c) i b = (cmB (K c) i + ((cmH (K c) i : Int) - cmB (K c) i)) * (hden (K c) i : Nat) + -(((cmH (K c) i : Int) - cmB (K c) i) * (2 * ((cmL (K c) i : Int) - b) * ((cmL (K c) i : Int) - b))) := by
          unfold hnum
          rw [eg, edz, Int.mul_sub, Int.add_mul]
          omega
        unfold hgt
        rw [ee]
        exact q'
theorem p_steepM {Φ : Hp → Int64 → Prop} {ns n : Nat} {x1 : Int32} {ov : Bool} {K : Nat → Cm} (h : Rep A E ls nl nc nd S D) (hn : D.FI 545 70 = nI n) (h8 : n ≤ 8) (hx : ∀ c, c < n → CmM (K c) c D ∧ CmK ns (K c))
    (kt1 : ¬ inR x1 n → ∀ S' D', Rep A E ls nl nc nd S' D' → Thr 1 D D' → Φ S' 0) (kt2 : ∀ c, c < n → x1 = nI c → sumN (cmL (K c)) (cmN (K c)) ≠ 24 → ∀ S' D', Rep A E ls nl nc nd S' D' → Thr 2 D D' → Φ S' 0)
    (kk : ∀ c, c < n → x1 = nI c → sumN (cmL (K c)) (cmN (K c)) = 24 → ∀ S' D', Rep A E ls nl nc nd S' D' → Thr 0 D D' → Φ S' (pick ov (stq (K c)))) : wX8_steep S (A 70) x1 (bI ov) Φ := by
  unfold wX8_steep wX8_steep_b0
  refine ⟨m_is h, p_isNotWhole h hn h8 hx (fun q S1 D1 r1 t1 => if_n (by decide) (kt1 q S1 D1 r1 t1)) (fun c hc e cs S1 D1 r1 t1 => if_n (by decide) (kt2 c hc e cs S1 D1 r1 t1)) (fun c hc e cs S1 D1 r1 t1 => if_p rfl ?_)⟩
  obtain ⟨hC, hK⟩ := hx c hc
  have hC1 := cmM_thr hC t1
  have n24 := cmK_n hK
  subst e
  have c8' : c < 8 := by omega
  have cc : (nI c).toNatClampNeg = c := cl_nI (by omega)
  have c8 : ∀ n, n = 8 → vp_in (nI c) n := fun n e => by
    rw [e]
    exact in_nI c8' (by decide)
  have a95 := m_arr r1 535 95 21 8
  have v95 : S1.AI (A 95) (nI c).toNatClampNeg = nI (cmN (K c)) := rd_I r1 (al_s (by decide)) (by omega) hC1.2.1
  refine it4_ex (fun j T a b v => T = S1 ∧ v = nI j ∧ a = i6 ((stp (K c) j).1 : Nat) ∧ b = i6 ((stp (K c) j).2 : Nat)) (cmN (K c)) ?_ ?_ ⟨rfl, rfl, rfl, rfl⟩
  · rintro j hj T _ _ _ k9 ⟨rfl, rfl, rfl, rfl⟩ hk9
    have sb := stp_b hK j (by omega)
    have hL := cmK_l hK hj
    obtain ⟨hL1, hH, hW⟩ := hK.2.2.1 j hj
    have hBj := cmB_le hK hj
    have rc := rd_cam r1 c8' hj (by omega) hC1
    unfold wX8_steep_b18
    refine ⟨m_is r1, A 95, a95.1, a95.2.1, c8 _ a95.2.2, ?_⟩
    rw [v95]
    refine if_n (nI_ge hj (by omega)) ?_
    have rb : ris (cmW (K c) j) (cmB (K c) j) (cmH (K c) j) ≤ 2 * 99 := by
      unfold ris
      refine Nat.mul_le_mul ?_ (by omega)
      by_cases cw : cmW (K c) j = 112
      · rw [if_pos cw]
        exact Nat.le_refl _
      · rw [if_neg cw]
        decide
    have m1 : ris (cmW (K c) j) (cmB (K c) j) (cmH (K c) j) * (stp (K c) j).2 ≤ 198 * 24 := Nat.mul_le_mul rb sb.2.2
    have m2 : (stp (K c) j).1 * cmL (K c) j ≤ 198 * 24 := Nat.mul_le_mul sb.1 hL
    have b71 : ∀ z0 z1 : Int64, z0 * z1 = i6 ((ris (cmW (K c) j) (cmB (K c) j) (cmH (K c) j) : Nat) : Int) → wX8_steep_b71 (A 70) (nI c) (bI ov) Φ k9 T (i6 ((stp (K c) j).1 : Nat)) (i6 ((stp (K c) j).2 : Nat)) (nI j) z0 z1 := fun z0 z1 hz => by
      unfold wX8_steep_b71
      rw [hz]
      refine ⟨m_is r1, rc.1 (K9 := fun y => (lg_cmp (i6 ((ris (cmW (K c) j) (cmB (K c) j) (cmH (K c) j) : Nat) : Int) * i6 ((stp (K c) j).2 : Nat)) (i6 ((stp (K c) j).1 : Nat) * y.toInt64) ≤ 0 → wX8_steep_b104 (A 70) (nI c) (bI ov) Φ k9 T (i6 ((stp (K c) j).1 : Nat)) (i6 ((stp (K c) j).2 : Nat)) (nI j) (i6 ((ris (cmW (K c) j) (cmB (K c) j) (cmH (K c) j) : Nat) : Int)) y.toInt64 0) ∧ (¬ lg_cmp (i6 ((ris (cmW (K c) j) (cmB (K c) j) (cmH (K c) j) : Nat) : Int) * i6 ((stp (K c) j).2 : Nat)) (i6 ((stp (K c) j).1 : Nat) * y.toInt64) ≤ 0 → wX8_steep_b104 (A 70) (nI c) (bI ov) Φ k9 T (i6 ((stp (K c) j).1 : Nat)) (i6 ((stp (K c) j).2 : Nat)) (nI j) (i6 ((ris (cmW (K c) j) (cmB (K c) j) (cmH (K c) j) : Nat) : Int)) y.toInt64 1)) ?_⟩
      rw [nI64 (by omega), i6_mul, i6_mul, ← Int.natCast_mul, ← Int.natCast_mul]
      have cmp := cmp_le (a := ((ris (cmW (K c) j) (cmB (K c) j) (cmH (K c) j) * (stp (K c) j).2 : Nat) : Int)) (b := (((stp (K c) j).1 * cmL (K c) j : Nat) : Int)) (rg_n (by omega)) (rg_n (by omega))
      unfold wX8_steep_b104 wX8_steep_b117 wX8_steep_b130
      by_cases cl : (stp (K c) j).1 * cmL (K c) j < ris (cmW (K c) j) (cmB (K c) j) (cmH (K c) j) * (stp (K c) j).2
      · have es : stp (K c) (j + 1) = (ris (cmW (K c) j) (cmB (K c) j) (cmH (K c) j), cmL (K c) j) := if_pos cl
        refine if_n (fun q => by have := cmp.mp q; omega) (if_n (by decide) (if_n (by decide) ?_))
        rw [← nI_succ]
        refine hk9 _ _ _ _ ⟨rfl, rfl, ?_, ?_⟩
        · rw [es]
        · rw [es]
      · have es : stp (K c) (j + 1) = stp (K c) j := if_neg cl
        refine if_p (cmp.mpr (by omega)) (if_p rfl (if_p rfl ?_))
        rw [← nI_succ]
        refine hk9 _ _ _ _ ⟨rfl, rfl, ?_, ?_⟩
        · rw [es]
        · rw [es]
    have a97 := m_arr r1 537 97 26 8
    have a98 := m_arr r1 538 98 27 8
    obtain ⟨f1, f2, f3, -, g1, g2, g3, -, n1, n2, n3, -⟩ := rw_ r1 c8'
    obtain ⟨l1, l2, l3, l4⟩ := rw_al (nl := nl) (nc := nc) (nd := nd) c8'
    obtain ⟨y1, y2, y3⟩ := hC1.2.2.1 j hj
    have v2 : T.AI (A (210 + c)) (nI j).toNatClampNeg = nI (cmH (K c) j) := rd_I r1 l2 (by omega) y2
    have v3 : T.AI (A (220 + c)) (nI j).toNatClampNeg = nI (cmW (K c) j) := rd_I r1 l3 (by omega) y3
    have i24 : ∀ n, n = 24 → vp_in (nI j) n := fun n e => by
      rw [e]
      exact in_nI (by omega) (by decide)
    rw [cc]
    refine ⟨A 97, a97.1, a97.2.1, c8 _ a97.2.2, _, f2, g2, i24 _ n2, p_before r1 c8' hC1 hK hj ⟨m_is r1, A 98, a98.1, a98.2.1, c8 _ a98.2.2, _, f3, g3, i24 _ n3, ?_⟩⟩
    rw [v2, v3, nI_dif (by omega) (by omega), nI64 (by omega)]
    rcases hW with hW | hW
    · refine fi_n (by rw [hW]; decide) (b71 _ _ ?_)
      rw [i6_1, i6_mul]
      unfold ris
      rw [if_neg (by omega), Nat.one_mul, Int.mul_one]
    · refine fi_p (by rw [hW]; rfl) (b71 _ _ ?_)
      rw [i6_2, i6_mul]
      unfold ris
      rw [if_pos hW, Nat.mul_comm, Int.natCast_mul]
      rfl
  · rintro T _ _ _ k9 ⟨rfl, rfl, rfl, rfl⟩
    have sb := stp_b hK (cmN (K c)) (Nat.le_refl _)
    unfold wX8_steep_b18
    refine ⟨m_is r1, A 95, a95.1, a95.2.1, c8 _ a95.2.2, ?_⟩
    rw [v95]
    refine if_p (nI_le (Nat.le_refl _) (by omega)) (t_result r1 (rg_n (by omega)) (rg_n (by omega)) (by omega) (fun S' D' r' t' q' => ?_))
    obtain ⟨o1, o2⟩ := m_top r' q'
    rw [o1, o2]
    have z := kk c hc rfl cs S' D' r' (t1.T t')
    cases ov with
    | true => exact if_n (by decide) ⟨m_is r', z⟩
    | false => exact if_p rfl ⟨m_is r', z⟩
end HD9
