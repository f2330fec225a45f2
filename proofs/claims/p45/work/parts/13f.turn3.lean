/-! THE CLASS: turn, whole -/
section CT7
variable {A E : Nat → Nat} {ls : Nat → List Nat} {nl nc nd : Nat} {S : Hp} {D : Dt} {G : Nat → Nat → Nat}
theorem sm_of {ns n : Nat} {P : Nat → Rat} (hG : GrOK ns nl G) (hB : BdP G nl n P) (hn : n ≤ 24600) (s : Nat) : Sm (P s) := by
  obtain ⟨M1, M2, M3⟩ := pm_lt hG s
  have hq := qn_le M3 hn
  have := bq_rg (bd_bq M1 (hB s)) M1 M2 (by omega) 1 (by omega)
  exact ⟨this.1, this.2.1⟩
theorem p_turnC {Φ : Hp → Int32 → Prop} {Ψ : Hp → String → Prop} {ns n : Nat} {x y : Int32} {lv : Nat → Nat} {ol : List Nat} {act : Nat → Bool} {P W : Nat → Rat} {mk : Nat → Int} {life : Nat → Nat} {pn : Nat → Nat → Nat → Bool} {ds : Nat → Nat} {V : Nat → Nat → Int32}
    (h : Rep A E ls nl nc nd S D) (hns : D.FI 461 0 = nI ns) (hC : LkC G nl D) (hG : GrOK ns nl G) (hL : Lev nl G lv) (hO : OlOK G nl ol) (hls0 : ls 0 = (List.range nl).map (fun k => A (400 + k))) (hls1 : ls 1 = ol.map (fun k => A (400 + k))) (hls3 : ls 3 = (List.range nd).map (fun d => A (600 + 3 * d))) (hnd : nd = 0) (hdr : DrA G nl ns 5 D)
    (hP : RowV D 2 14 P) (hmk : ∀ k, k < nl → D.AJ 60 k = i6 (mk k)) (hact : ∀ k, k < nl → D.AI 63 k = bI (act k)) (hnb : ∀ i, i < 16 → nb (D.AI 63 i)) (ha0 : ∀ k, nl ≤ k → act k = false) (hW : RowV D 1 16 W) (hlf : ∀ k, k < nl → D.FI 329 (400 + k) = nI (life k) ∧ life k ≤ 999) (hV : ∀ d t, d < nd → t < 8 → D.AI (602 + 3 * d) t = V d t) (hds : ∀ d, d < nd → D.FI 128 (600 + 3 * d) = nI (ds d) ∧ ds d < ns) (hpn : MskM pn nd D)
    (hR : RI G nl act P mk) (hB : BdP G nl n P) (hM : MB nl mk) (hWB : BdW G nl n W) (hn : 0 < ns → n + 48 ≤ 24560)
    (kt1 : ¬ inR x ns → Ψ S "java/lang/IndexOutOfBoundsException") (kt2 : inR x ns → ¬ (-48 ≤ y.toInt ∧ y.toInt ≤ 48) → Ψ S "java/lang/IllegalArgumentException") (kt3 : ∀ inp, inp < ns → x = nI inp → (-48 ≤ y.toInt ∧ y.toInt ≤ 48) → drv G nl inp ≠ none → Ψ S "java/lang/UnsupportedOperationException")
    (kk : ∀ inp Ps tns mks S' D', inp < ns → x = nI inp → (-48 ≤ y.toInt ∧ y.toInt ≤ 48) → drv G nl inp = none → Ps 0 = P → mks 0 = mk → Sq G nl act inp (wayOf y) y.toInt.natAbs Ps tns mks → Rep A E ls nl nc nd S' D' →
      SamG (fun i r => (i = 462 ∧ r = 0) ∨ (i = 463 ∧ r = 0) ∨ i = 328) (fun r => r = 63 ∨ r = 64 ∨ ∃ d, d < nd ∧ r = 602 + 3 * d) (fun r => (32 ≤ r ∧ r < 42) ∨ r = 60 ∨ r = 61) D D' →
      D'.FI 462 0 = nI inp → D'.FI 463 0 = y → (∀ k, k < nl → D'.FI 328 (400 + k) = if bw (Wsq G act tns W y.toInt.natAbs) life k = true then 1 else D.FI 328 (400 + k)) → (∀ k, D'.AI 63 k = if k < nl ∧ bw (Wsq G act tns W y.toInt.natAbs) life k = true then 0 else D.AI 63 k) →
      RowV D' 2 14 (Ps y.toInt.natAbs) → (∀ k, k < nl → D'.AJ 60 k = i6 (mks y.toInt.natAbs k)) → RowV D' 1 16 (Wsq G act tns W y.toInt.natAbs) → RowV D' 5 14 P → (∀ k, k < nl → D'.AJ 61 k = i6 (mk k)) → (∀ k, k < 16 → D'.AI 64 k = D.AI 63 k) → (∀ d t, d < nd → t < 8 → D'.AI (602 + 3 * d) t = Vsq pn ds Ps tns V y.toInt.natAbs d t) →
      Φ S' (nI (cnt ns (fun s => decide (Ps y.toInt.natAbs s ≠ P s))))) : wX7_turn S (A 0) x y Φ Ψ := by
  have h14 := hG.1
  have hnl14 := hG.2.1
  unfold wX7_turn wX7_turn_b0
  refine ⟨c_is h, p_checkShaft h hns h14 (fun inp hi e => ?_) kt1⟩
  subst e
  have hin : inR (nI inp) ns := inR_nI hi (by omega)
  refine p_checkRange (fun y1 y2 => ?_) (fun q => kt2 hin q)
  have hy : -48 ≤ y.toInt ∧ y.toInt ≤ 48 := ⟨y1, y2⟩
  have a5 : isA S (A 5) 21 := rep_is h (al_s (by decide)) (by decide)
  have n5 : S.N (A 5) = 14 := rep_N h (al_s (by decide)) (by decide)
  have v5 : S.AI (A 5) (nI inp).toNatClampNeg = D.AI 5 inp := by
    rw [cl_nI (by omega)]
    exact rep_AI h inp (al_s (by decide))
  refine ⟨c_is h, A 5, rep_fr h (452, 0, 5) (by decide), a5, by rw [n5]; exact in_nI (by omega) (by decide), ?_⟩
  rw [v5]
  have dv := hdr inp hi
  cases ed : drv G nl inp with
  | some k =>
    rw [ed] at dv
    have hk := (drv_some ed).1
    refine if_n ?_ (kt3 inp hi rfl hy (by rw [ed]; exact (fun q => by cases q)))
    rw [dv]
    exact nI_nm (by omega)
  | none =>
    rw [ed] at dv
    refine if_p dv ⟨A 21, rep_fr h (459, 0, 21) (by decide), A 20, rep_fr h (458, 0, 20) (by decide), (mot_ h (m := 1) (by decide)).1, p_mcopy (m := 1) (m' := 0) h (by decide) (by decide) (by decide) hnb (fun S1 D1 h1 s1 rv1 mk1 ac1 => ⟨c_is h1, fun S2 e2 S3 e3 => ?_⟩)⟩
    have h2 := set_FI h1 (r := 0) (i := 462) (nI inp) c_al (by decide)
    rw [← e2] at h2
    have h3 := set_FI h2 (r := 0) (i := 463) y c_al (by decide)
    rw [← e3] at h3
    have f462 : ((D1.setFI 462 0 (nI inp)).setFI 463 0 y).FI 462 0 = nI inp := by
      rw [dtFI_n (by decide), dtFI_s]
    have f463 : ((D1.setFI 462 0 (nI inp)).setFI 463 0 y).FI 463 0 = y := dtFI_s
    have f328 : ∀ r, ((D1.setFI 462 0 (nI inp)).setFI 463 0 y).FI 328 r = D.FI 328 r := fun r => by
      rw [dtFI_n (by omega), dtFI_n (by omega)]
      exact s1.1 328 r (fun q => q)
    have s3 : SamG (fun i r => (i = 462 ∧ r = 0) ∨ (i = 463 ∧ r = 0) ∨ i = 328) (fun r => r = 63 ∨ r = 64 ∨ ∃ d, d < nd ∧ r = 602 + 3 * d) (fun r => (32 ≤ r ∧ r < 42) ∨ r = 60 ∨ r = 61) D ((D1.setFI 462 0 (nI inp)).setFI 463 0 y) := ((s1.wk (fun _ _ q => q.elim) (fun r q => by omega) (fun r q => by omega)).tr (samG_F (Or.inl ⟨rfl, rfl⟩))).tr (samG_F (Or.inr (Or.inl ⟨rfl, rfl⟩)))
    have aj3 : ((D1.setFI 462 0 (nI inp)).setFI 463 0 y).AJ = D1.AJ := rfl
    have ai3 : ((D1.setFI 462 0 (nI inp)).setFI 463 0 y).AI = D1.AI := rfl
    generalize (D1.setFI 462 0 (nI inp)).setFI 463 0 y = D3 at *
    have cAJ : ∀ r, ¬ (r = 34 + 6 * 1 ∨ r = 35 + 6 * 1 ∨ r = 60 + 1) → D3.AJ r = D.AJ r := fun r hr => by
      rw [aj3]
      exact s1.2.2 r hr
    have cAI : ∀ r, ¬ r = 63 + 1 → D3.AI r = D.AI r := fun r hr => by
      rw [ai3]
      exact s1.2.1 r hr
    have hact' : ∀ k, k < nl → act k = true → G k 3 ≠ inp := fun k hk _ => drv_none.mp ed k hk
    obtain ⟨Ps, tns, mks, e0, em, hsq⟩ := sq_ex hG hL act P mk inp (wayOf y) hact' y.toInt.natAbs
    have hns0 : n + 48 ≤ 24560 := hn (by omega)
    have hNN : n + y.toInt.natAbs ≤ 24560 := by omega
    have hw : (wayOf y).natAbs ≤ 1 := by
      unfold wayOf
      by_cases c : y.toInt < 0
      · rw [if_pos c]
        decide
      · rw [if_neg c]
        decide
    have hR0 : RI G nl act (Ps 0) (mks 0) := by rw [e0, em]; exact hR
    have hB0 : BdP G nl n (Ps 0) := by rw [e0]; exact hB
    have hM0 : MB nl (mks 0) := by rw [em]; exact hM
    obtain ⟨i1, i2, i3, i4⟩ := sq_inv hG hL hw hsq hR0 hB0 hM0 hWB hNN _ (Nat.le_refl _)
    have hP3 : RowV D3 2 14 (Ps 0) := by
      rw [e0]
      exact rowV_other hP (cAJ 34 (by decide)) (cAJ 35 (by decide))
    have hC3 : LkC G nl D3 := lkC_cg hC (fun i r q1 q2 => s3.1 i r (by omega))
    refine p_turnLoop (n := n) (ds := ds) (pn := pn) (V := V) h3 hC3 hG hL hO hls0 hls1 hls3 hnd hP3 (fun k hk => ?_) (fun k hk => ?_) ha0 (rowV_other hW (cAJ 32 (by decide)) (cAJ 33 (by decide))) (fun d t hd ht => ?_) (fun d hd => ?_) (fun d p t hd hp ht => ?_) hi hy rfl hsq hR0 hB0 hM0 hWB hNN (fun S4 D4 h4 s4 p4 m4 w4 v4 => ⟨c_is h4, ?_⟩)
    · rw [cAJ 60 (by decide), em]
      exact hmk k hk
    · rw [cAI 63 (by decide)]
      exact hact k hk
    · rw [cAI _ (by omega)]
      exact hV d t hd ht
    · rw [s3.1 _ _ (by omega)]
      exact hds d hd
    · rw [cAI _ (by omega)]
      exact hpn d p t hd hp ht
    · have s4' : SamG (fun i r => (i = 462 ∧ r = 0) ∨ (i = 463 ∧ r = 0) ∨ i = 328) (fun r => r = 63 ∨ r = 64 ∨ ∃ d, d < nd ∧ r = 602 + 3 * d) (fun r => (32 ≤ r ∧ r < 42) ∨ r = 60 ∨ r = 61) D3 D4 := s4.G.wk (fun _ _ q => q) (fun r q => Or.inr (Or.inr q)) (fun r q => by omega)
      refine p_breakWorn (life := life) (n := n + y.toInt.natAbs) h4 (lkC_X hC3 s4) hG hL hls0 (fun k hk => ?_) w4 i4 (by omega) (fun S5 D5 h5 s5 f5 t5 => ⟨c_is h5, ?_⟩)
      · rw [s4.1, s3.1 _ _ (by omega)]
        exact hlf k hk
      · have s5' : SamG (fun i r => (i = 462 ∧ r = 0) ∨ (i = 463 ∧ r = 0) ∨ i = 328) (fun r => r = 63 ∨ r = 64 ∨ ∃ d, d < nd ∧ r = 602 + 3 * d) (fun r => (32 ≤ r ∧ r < 42) ∨ r = 60 ∨ r = 61) D4 D5 := s5.wk (fun _ _ q => Or.inr (Or.inr q)) (fun r q => Or.inl q) (fun r q => q.elim)
        have p5 : RowV D5 2 14 (Ps y.toInt.natAbs) := rowV_other p4 (s5.2.2 34 (fun q => q)) (s5.2.2 35 (fun q => q))
        have a5' : RowV D5 5 14 P := by
          refine rowV_other (rv1 P hP) ?_ ?_
          · rw [s5.2.2 _ (fun q => q), s4.2.2 _ (by omega), aj3]
          · rw [s5.2.2 _ (fun q => q), s4.2.2 _ (by omega), aj3]
        refine p_countMoved h5 ?_ h14 p5 a5' (sm_of hG i2 (by omega)) (sm_of hG hB (by omega)) (kk inp Ps tns mks S5 D5 hi rfl hy ed e0 em hsq h5 ((s3.tr s4').tr s5') ?_ ?_ (fun k hk => ?_) (fun k => ?_) p5 (fun k hk => ?_) (rowV_other w4 (s5.2.2 32 (fun q => q)) (s5.2.2 33 (fun q => q))) a5' (fun k hk => ?_) (fun k hk => ?_) (fun d t hd ht => ?_))
        · rw [s5.1 461 0 (by decide), s4.1, s3.1 461 0 (by decide)]
          exact hns
        · rw [s5.1 462 0 (by decide), s4.1]
          exact f462
        · rw [s5.1 463 0 (by decide), s4.1]
          exact f463
        · rw [f5 k hk, s4.1, f328]
        · rw [t5 k, s4.2.1 63 (fun ⟨_, _, q⟩ => by omega), cAI 63 (by decide)]
        · rw [s5.2.2 60 (fun q => q)]
          exact m4 k hk
        · rw [s5.2.2 61 (fun q => q), s4.2.2 61 (by decide), aj3]
          exact (mk1 k (by omega)).trans (hmk k hk)
        · rw [s5.2.1 64 (by decide), s4.2.1 64 (fun ⟨_, _, q⟩ => by omega), ai3]
          exact ac1 k hk
        · rw [s5.2.1 _ (by omega)]
          exact v4 d t hd ht
end CT7
