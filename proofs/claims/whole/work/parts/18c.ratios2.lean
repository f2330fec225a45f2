/-! THE CLASS: ratios, slacks -/
section RB9
variable {A E : Nat → Nat} {ls : Nat → List Nat} {nl nc nd : Nat} {S : Hp} {D : Dt} {G : Nat → Nat → Nat}
theorem p_findRatios {Φ : Hp → Prop} {Ψ : Hp → String → Prop} {ns : Nat} {x y : Int32} {lv : Nat → Nat} {ol : List Nat} {eng brk : Nat → Bool} (h : Rep A E ls nl nc nd S D) (hns : D.FI 461 0 = nI ns) (hC : LkC G nl D) (hG : GrOK ns nl G) (hL : Lev nl G lv) (hO : OlOK G nl ol) (hls : ls 1 = ol.map (fun k => A (400 + k))) (hdr : DrA G nl 14 5 D)
    (he : ∀ k, k < nl → D.FI 327 (400 + k) = bI (eng k)) (hb : ∀ k, k < nl → D.FI 328 (400 + k) = bI (brk k))
    (kt1 : ¬ (inR x ns ∧ inR y ns) → Ψ S "java/lang/IndexOutOfBoundsException")
    (kt2 : ∀ s inp, s < ns → inp < ns → x = nI s → y = nI inp → (drv G nl inp ≠ none ∨ (drv G nl inp = none ∧ ∃ B, UnV G nl inp brk B ∧ B s = true)) → ∀ S' D', Rep A E ls nl nc nd S' D' → SamG (fun _ _ => False) (fun r => r = 7 ∨ r = 8) (fun r => r = 30 ∨ r = 31) D D' → Ψ S' "java/lang/UnsupportedOperationException")
    (kk : ∀ s inp Q B, s < ns → inp < ns → x = nI s → y = nI inp → drv G nl inp = none → UnV G nl inp brk B → B s = false → Shr G nl inp (fun k => eng k && !brk k) Q → ∀ S' D', Rep A E ls nl nc nd S' D' → SamG (fun _ _ => False) (fun r => r = 7 ∨ r = 8) (fun r => r = 30 ∨ r = 31) D D' → RowV D' 0 14 Q → Φ S') : wX7_findRatios S (A 0) x y Φ Ψ := by
  have h14 := hG.1
  have hnl := hG.2.1
  have hb20 : ∀ s, lv s ≤ 20 := fun s => by have := hL.2 s; omega
  unfold wX7_findRatios wX7_findRatios_b0
  refine ⟨c_is h, p_checkShaft h hns h14 (fun s hs es => ⟨c_is h, p_checkShaft h hns h14 (fun inp hi ei => ⟨c_is h, A 5, rep_fr h (452, 0, 5) (by decide), rep_is h (al_s (by decide)) (by decide), ?_⟩) (fun q => kt1 (fun w => q w.2))⟩) (fun q => kt1 (fun w => q w.1))⟩
  subst es ei
  have n5 : S.N (A 5) = 14 := rep_N h (al_s (by decide)) (by decide)
  refine ⟨by rw [n5]; exact in_nI (by omega) (by decide), ?_⟩
  have v : S.AI (A 5) (nI inp).toNatClampNeg = match drv G nl inp with | none => -1 | some k => nI k := rd_I h (al_s (by decide)) (by omega) (hdr inp (by omega))
  rw [v]
  cases hd : drv G nl inp with
  | some k0 =>
    have hk := (drv_some hd).1
    exact if_n (nI_nm (by omega)) (kt2 s inp hs hi rfl rfl (Or.inl (by rw [hd]; exact fun q => by cases q)) S D h SamG.rf)
  | none =>
    obtain ⟨B, hB⟩ := unV_ex (inp := inp) hG hL brk
    obtain ⟨Q, hQ⟩ := shr_ex (inp := inp) hL (fun k => eng k && !brk k)
    refine if_p rfl ⟨A 9, rep_fr h (456, 0, 9) (by decide), (row_ h (p := 0) (by decide)).1, p_reset (p := 0) h (by decide) (fun S11 r11 => ⟨c_is r11, A 9, rep_fr r11 (456, 0, 9) (by decide), (row_ r11 (p := 0) (by decide)).1, p_put (p := 0) (o := 1) (u := 1) r11 (by decide) (by show inp < 14; omega) rg_1 rg_1 (by decide) (fun S15 r15 => ?_)⟩)⟩
    have e1 : Rat.divInt 1 ((1 : Nat) : Int) = 1 := by rfl
    rw [e1] at r15
    have g0 : RowV (putQ ((D.fillJ 30 14 0).fillJ 31 14 1) 0 inp 1) 0 14 (fun s => if s = inp then 1 else 0) := by
      refine rowV_congr (rowV_put (rowV_fill (D := D) (p := 0) (n := 14))) (fun i _ => ?_)
      rfl
    have s0 : SamG (fun _ _ => False) (fun r => r = 7 ∨ r = 8) (fun r => r = 30 ∨ r = 31) D (putQ ((D.fillJ 30 14 0).fillJ 31 14 1) 0 inp 1) := SamJ.G (X := fun r => r = 30 ∨ r = 31) ((samJ_fill (p := 0) (Or.inl rfl) (Or.inr rfl)).tr (samJ_put (p := 0) (Or.inl rfl) (Or.inr rfl)))
    have r15' : Rep A E ls nl nc nd S15 (putQ ((D.fillJ 30 14 0).fillJ 31 14 1) 0 inp 1) := r15
    generalize (putQ ((D.fillJ 30 14 0).fillJ 31 14 1) 0 inp 1) = D0 at *
    -- the first loop
    refine it2_ex (fun j S2 v => v = nI j ∧ ∃ D2, Rep A E ls nl nc nd S2 D2 ∧ SamG (fun _ _ => False) (fun r => r = 7 ∨ r = 8) (fun r => r = 30 ∨ r = 31) D D2 ∧ RowV D2 0 14 (fun s => if s = inp then 1 else 0) ∧ (∀ s, s < j → D2.AI 7 s = bI (decide (s = inp))) ∧ ∀ s, s < j → D2.AI 8 s = 0) 14 ?_ ?_ ⟨rfl, D0, r15', s0, g0, fun s hs => absurd hs (by omega), fun s hs => absurd hs (by omega)⟩
    · rintro j hj S2 _ k9 ⟨rfl, D2, r2, s2, g2, a2, b2⟩ hk9
      unfold wX7_findRatios_b50
      refine if_n (nI_ge (b := 14) hj (by decide)) ⟨c_is r2, A 7, rep_fr r2 (454, 0, 7) (by decide), ?_⟩
      have go : ∀ w : Bool, w = decide (j = inp) → wX7_findRatios_b71 (A 0) (nI s) (nI inp) Φ Ψ k9 S2 (nI j) (A 7) (nI j) (bI w) := fun w hw => by
        unfold wX7_findRatios_b71
        refine ⟨rep_is r2 (al_s (by decide)) (by decide), by rw [rep_N r2 (al_s (r := 7) (by decide)) (n := 14) (by decide)]; exact in_nI hj (by decide), nb_bI _, fun S4 e4 => ?_⟩
        rw [cl_nI (by omega)] at e4
        obtain ⟨D4, r4, u4, j4, o4, i4⟩ := t_setAI (r := 7) r2 (al_s (by decide)) e4
        refine ⟨c_is r4, A 8, rep_fr r4 (455, 0, 8) (by decide), rep_is r4 (al_s (by decide)) (by decide), by rw [rep_N r4 (al_s (r := 8) (by decide)) (n := 14) (by decide)]; exact in_nI hj (by decide), fun S9 e9 => ?_⟩
        rw [cl_nI (by omega)] at e9
        obtain ⟨D9, r9, u9, j9, o9, i9⟩ := t_setAI (r := 8) r4 (al_s (by decide)) e9
        rw [← nI_succ]
        refine hk9 _ _ ⟨rfl, D9, r9, ⟨fun i r hr => by rw [u9, u4]; exact s2.1 i r hr, fun r hr => ?_, fun r hr => by rw [j9, j4]; exact s2.2.2 r hr⟩, rowV_other g2 (by rw [j9, j4]) (by rw [j9, j4]), fun t ht => ?_, fun t ht => ?_⟩
        · rw [o9 r (fun q => hr (Or.inr q)), o4 r (fun q => hr (Or.inl q))]
          exact s2.2.1 r hr
        · rw [o9 7 (by decide), i4 t]
          by_cases c : t = j
          · rw [if_pos c, hw, c]
          · rw [if_neg c]
            exact a2 t (by omega)
        · rw [i9 t, o4 8 (by decide)]
          by_cases c : t = j
          · rw [if_pos c]
          · rw [if_neg c]
            exact b2 t (by omega)
      by_cases c : j = inp
      · exact fi_p (by rw [c]) (go true (decide_eq_true c).symm)
      · exact fi_n (fun q => c ((nI_iff (by omega) (by omega)).mp q)) (go false (decide_eq_false c).symm)
    rintro S2 _ k9 ⟨rfl, D2, r2, s2, g2, a2, b2⟩
    unfold wX7_findRatios_b50
    refine if_p (nI_le (Nat.le_refl 14) (by decide)) ?_
    have hb0 : ∀ t, drv G nl t = none → bh G nl inp t = decide (t = inp) := fun t ht => bh_none ht
    have hB0 : ∀ t, drv G nl t = none → B t = false := fun t ht => by rw [hB t, ht]
    have hQ0 : ∀ t, drv G nl t = none → Q t = if t = inp then 1 else 0 := fun t ht => by rw [hQ t, ht]
    -- the second loop
    refine it2_ex (fun j S3 v => v = nI j ∧ ∃ D3, Rep A E ls nl nc nd S3 D3 ∧ SamG (fun _ _ => False) (fun r => r = 7 ∨ r = 8) (fun r => r = 30 ∨ r = 31) D D3 ∧ RowV D3 0 14 (Tg G Q (fun t => if t = inp then 1 else 0) (ol.take j)) ∧ (∀ t, t < 14 → D3.AI 7 t = bI (Tg G (bh G nl inp) (fun t => decide (t = inp)) (ol.take j) t)) ∧ ∀ t, t < 14 → D3.AI 8 t = bI (Tg G B (fun _ => false) (ol.take j) t)) ol.length ?_ ?_ ⟨rfl, D2, r2, s2, by rw [List.take_zero, tg_nil]; exact g2, fun t ht => by rw [List.take_zero, tg_nil]; exact a2 t ht, fun t ht => by rw [List.take_zero, tg_nil]; exact b2 t ht⟩
    · rintro j hj S3 _ k9 ⟨rfl, D3, r3, s3, g3, a3, b3⟩ hk9
      have hol := hO.1
      have hel : ol[j]? = some ol[j] := List.getElem?_eq_getElem hj
      generalize ol[j] = k at hel
      obtain ⟨hk, hnot, hsrc⟩ := hO.2.2 j k hel
      obtain ⟨hkk, f1, f2, f3⟩ := hG.2.2.1 k hk
      have hC3 := lkC_cg hC (fun i r _ _ => s3.1 i r (fun q => q))
      have lk := lkS_of r3 hC3 hk (by omega)
      have hlen : (ls 1).length = ol.length := by rw [hls, List.length_map]
      have hdk := drv_of hG hk
      have nin : G k 3 ≠ inp := fun q => by rw [q, hd] at hdk; exact absurd hdk (fun q => by cases q)
      unfold wX7_findRatios_b87
      refine ⟨c_is r3, A (1 + 1), rep_fr r3 (449, 0, 2) (by decide), ls_is r3 (by decide), p_size r3 (j := 1) (by decide) (if_n ?_ ⟨c_is r3, A (1 + 1), rep_fr r3 (449, 0, 2) (by decide), ls_is r3 (by decide), p_get (x := A (400 + k)) r3 (j := 1) (by decide) ?_ ⟨A (400 + k), rfl, lk.1, c_is r3, ?_⟩⟩)⟩
      · rw [hlen]
        exact nI_ge hj (by omega)
      · rw [hls, List.getElem?_map, hel]
        rfl
      have d1 : ∀ k', k' < nl → G k' 3 = G k 1 → k' ∈ ol.take j := fun k' hk' e => hsrc k' hk' (Or.inl e)
      have d2 : G k 0 = 112 → ∀ k', k' < nl → G k' 3 = G k 2 → k' ∈ ol.take j := fun hp k' hk' e => hsrc k' hk' (Or.inr ⟨hp, e⟩)
      have tQ1 : Tg G Q (fun t => if t = inp then 1 else 0) (ol.take j) (G k 1) = Q (G k 1) := tg_all hQ0 d1
      have tQ2 : G k 0 = 112 → Tg G Q (fun t => if t = inp then 1 else 0) (ol.take j) (G k 2) = Q (G k 2) := fun hp => tg_all hQ0 (d2 hp)
      have tQ3 : Tg G Q (fun t => if t = inp then 1 else 0) (ol.take j) (G k 3) = 0 := (tg_new hG hk (ol_mem hO) hnot).trans (if_neg nin)
      refine p_spread (rf := bh G nl inp (G k 1)) (rr := bh G nl inp (G k 2)) (bf := B (G k 1)) (br := B (G k 2)) r3 hC3 hG hL hk ?_ ?_ ?_ ?_ ((s3.1 _ _ (fun q => q)).trans (he k hk)) ((s3.1 _ _ (fun q => q)).trans (hb k hk)) g3 tQ3 (by rw [tQ1]; exact shr_bd hG hL hQ _) (fun hp => by rw [tQ2 hp]; exact shr_bd hG hL hQ _) (fun S4 D4 r4 s4 a4 b4 g4 => ?_)
      · rw [a3 _ (by omega), tg_all hb0 d1]
      · intro hp
        have := f2 hp
        rw [a3 _ (by omega), tg_all hb0 (d2 hp)]
      · rw [b3 _ (by omega), tg_all hB0 d1]
      · intro hp
        have := f2 hp
        rw [b3 _ (by omega), tg_all hB0 (d2 hp)]
      rw [← nI_succ]
      have ebh : (bh G nl inp (G k 1) || (decide (G k 0 = 112) && bh G nl inp (G k 2))) = bh G nl inp (G k 3) := by
        rw [bh_link hG hL.1 hb20 hk, decide_eq_false nin, Bool.false_or]
      refine hk9 _ _ ⟨rfl, D4, r4, s3.tr s4, ?_, fun t ht => ?_, fun t ht => ?_⟩
      · rw [take_succ hel]
        refine rowV_congr g4 (fun t _ => ?_)
        rw [tg_succ]
        have eQ : Q (G k 3) = if (eng k && !brk k) = true then cry G k (ovz G k) Q else 0 := by
          rw [hQ (G k 3), hdk]
        rw [eQ]
        by_cases ca : (eng k && !brk k) = true
        · rw [if_pos ca, if_pos ca, cry_congr tQ1 tQ2]
          rfl
        · rw [if_neg ca, if_neg ca]
          by_cases ct : t = G k 3
          · rw [if_pos ct, ct, tQ3]
          · rw [if_neg ct]
      · rw [a4 t, take_succ hel, tg_succ, ebh]
        by_cases ct : t = G k 3
        · rw [if_pos ct, if_pos ct]
        · rw [if_neg ct, if_neg ct]
          exact a3 t ht
      · rw [b4 t, take_succ hel, tg_succ, ebh]
        by_cases ct : t = G k 3
        · rw [if_pos ct, if_pos ct, hB (G k 3), hdk]
        · rw [if_neg ct, if_neg ct]
          exact b3 t ht
    · rintro S3 _ k9 ⟨rfl, D3, r3, s3, g3, a3, b3⟩
      have hlen : (ls 1).length = ol.length := by rw [hls, List.length_map]
      have hol := hO.1
      rw [List.take_length] at g3 a3 b3
      have eQ : Tg G Q (fun t => if t = inp then 1 else 0) ol = Q := funext fun t => tg_all hQ0 (fun k hk _ => hO.2.1 k hk)
      have eB : Tg G B (fun _ => false) ol s = B s := tg_all hB0 (fun k hk _ => hO.2.1 k hk)
      rw [eQ] at g3
      unfold wX7_findRatios_b87
      have v8 : S3.AI (A 8) (nI s).toNatClampNeg = bI (B s) := rd_I r3 (al_s (by decide)) (by omega) (by rw [b3 s (by omega), eB])
      refine ⟨c_is r3, A (1 + 1), rep_fr r3 (449, 0, 2) (by decide), ls_is r3 (by decide), p_size r3 (j := 1) (by decide) (if_p ?_ ⟨c_is r3, A 8, rep_fr r3 (455, 0, 8) (by decide), rep_is r3 (al_s (by decide)) (by decide), ?_, ?_⟩)⟩
      · rw [hlen]
        exact nI_le (Nat.le_refl _) (by omega)
      · rw [rep_N r3 (al_s (r := 8) (by decide)) (n := 14) (by decide)]
        exact in_nI (by omega) (by decide)
      rw [v8]
      cases eb : B s with
      | false => exact if_p rfl (kk s inp Q B hs hi rfl rfl hd hB eb hQ S3 D3 r3 s3 g3)
      | true => exact if_n (by decide) (kt2 s inp hs hi rfl rfl (Or.inr ⟨hd, B, hB, eb⟩) S3 D3 r3 s3)
theorem p_ratioOverC {Φ : Hp → Int64 → Prop} {Ψ : Hp → String → Prop} {ns : Nat} {x y : Int32} {lv : Nat → Nat} {ol : List Nat} {eng brk : Nat → Bool} (h : Rep A E ls nl nc nd S D) (hns : D.FI 461 0 = nI ns) (hC : LkC G nl D) (hG : GrOK ns nl G) (hL : Lev nl G lv) (hO : OlOK G nl ol) (hls : ls 1 = ol.map (fun k => A (400 + k))) (hdr : DrA G nl 14 5 D)
    (he : ∀ k, k < nl → D.FI 327 (400 + k) = bI (eng k)) (hb : ∀ k, k < nl → D.FI 328 (400 + k) = bI (brk k))
    (kt1 : ¬ (inR x ns ∧ inR y ns) → Ψ S "java/lang/IndexOutOfBoundsException")
    (kt2 : ∀ s inp, s < ns → inp < ns → x = nI s → y = nI inp → (drv G nl inp ≠ none ∨ (drv G nl inp = none ∧ ∃ B, UnV G nl inp brk B ∧ B s = true)) → ∀ S' D', Rep A E ls nl nc nd S' D' → SamG (fun _ _ => False) (fun r => r = 7 ∨ r = 8) (fun r => r = 30 ∨ r = 31) D D' → Ψ S' "java/lang/UnsupportedOperationException")
    (kk : ∀ s inp Q B, s < ns → inp < ns → x = nI s → y = nI inp → drv G nl inp = none → UnV G nl inp brk B → B s = false → Shr G nl inp (fun k => eng k && !brk k) Q → ∀ S' D', Rep A E ls nl nc nd S' D' → SamG (fun _ _ => False) (fun r => r = 7 ∨ r = 8) (fun r => r = 30 ∨ r = 31) D D' → Φ S' (i6 (Q s).num)) : wX7_ratioOver S (A 0) x y Φ Ψ := by
  have h14 := hG.1
  unfold wX7_ratioOver wX7_ratioOver_b0
  refine ⟨c_is h, p_findRatios h hns hC hG hL hO hls hdr he hb kt1 kt2 (fun s inp Q B hs hi es ei hd hB eb hQ S' D' r' s' g' => ⟨c_is r', A 9, rep_fr r' (456, 0, 9) (by decide), (row_ r' (p := 0) (by decide)).1, ?_⟩)⟩
  rw [es]
  refine p_overAt (p := 0) r' (by decide) (by show s < 14; omega) ?_
  rw [(g' s (by omega)).1]
  exact kk s inp Q B hs hi es ei hd hB eb hQ S' D' r' s'
theorem p_ratioUnderC {Φ : Hp → Int64 → Prop} {Ψ : Hp → String → Prop} {ns : Nat} {x y : Int32} {lv : Nat → Nat} {ol : List Nat} {eng brk : Nat → Bool} (h : Rep A E ls nl nc nd S D) (hns : D.FI 461 0 = nI ns) (hC : LkC G nl D) (hG : GrOK ns nl G) (hL : Lev nl G lv) (hO : OlOK G nl ol) (hls : ls 1 = ol.map (fun k => A (400 + k))) (hdr : DrA G nl 14 5 D)
    (he : ∀ k, k < nl → D.FI 327 (400 + k) = bI (eng k)) (hb : ∀ k, k < nl → D.FI 328 (400 + k) = bI (brk k))
    (kt1 : ¬ (inR x ns ∧ inR y ns) → Ψ S "java/lang/IndexOutOfBoundsException")
    (kt2 : ∀ s inp, s < ns → inp < ns → x = nI s → y = nI inp → (drv G nl inp ≠ none ∨ (drv G nl inp = none ∧ ∃ B, UnV G nl inp brk B ∧ B s = true)) → ∀ S' D', Rep A E ls nl nc nd S' D' → SamG (fun _ _ => False) (fun r => r = 7 ∨ r = 8) (fun r => r = 30 ∨ r = 31) D D' → Ψ S' "java/lang/UnsupportedOperationException")
    (kk : ∀ s inp Q B, s < ns → inp < ns → x = nI s → y = nI inp → drv G nl inp = none → UnV G nl inp brk B → B s = false → Shr G nl inp (fun k => eng k && !brk k) Q → ∀ S' D', Rep A E ls nl nc nd S' D' → SamG (fun _ _ => False) (fun r => r = 7 ∨ r = 8) (fun r => r = 30 ∨ r = 31) D D' → Φ S' (i6 (Q s).den)) : wX7_ratioUnder S (A 0) x y Φ Ψ := by
  have h14 := hG.1
  unfold wX7_ratioUnder wX7_ratioUnder_b0
  refine ⟨c_is h, p_findRatios h hns hC hG hL hO hls hdr he hb kt1 kt2 (fun s inp Q B hs hi es ei hd hB eb hQ S' D' r' s' g' => ⟨c_is r', A 9, rep_fr r' (456, 0, 9) (by decide), (row_ r' (p := 0) (by decide)).1, ?_⟩)⟩
  rw [es]
  refine p_underAt (p := 0) r' (by decide) (by show s < 14; omega) ?_
  rw [(g' s (by omega)).2]
  exact kk s inp Q B hs hi es ei hd hB eb hQ S' D' r' s'
end RB9
