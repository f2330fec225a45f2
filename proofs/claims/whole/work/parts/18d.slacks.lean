/-! THE CLASS: slacks -/
theorem abs32 {y : Int32} {N : Nat} (hN : N = y.toInt.natAbs) (h : N < 1000000) : (if 0 ≤ y then y else 0 - y) = nI N := by
  have h0y : 0 ≤ y ↔ 0 ≤ y.toInt := Int32.le_iff_toInt_le
  apply Int32.toInt_inj.mp
  rw [nI_toInt (by omega)]
  by_cases c : 0 ≤ y
  · rw [if_pos c]
    have := h0y.mp c
    omega
  · have : ¬ 0 ≤ y.toInt := fun q => c (h0y.mpr q)
    rw [if_neg c, Int32.zero_sub, Int32.toInt_neg, Int.bmod_eq_of_le (by omega) (by omega)]
    omega
section SL9
variable {A E : Nat → Nat} {ls : Nat → List Nat} {nl nc nd : Nat} {S : Hp} {D : Dt} {G : Nat → Nat → Nat}
theorem p_findSlacks {Φ : Hp → Prop} {Ψ : Hp → String → Prop} {ns : Nat} {x : Int32} {lv : Nat → Nat} {ol : List Nat} {sl : Nat → Nat} (h : Rep A E ls nl nc nd S D) (hns : D.FI 461 0 = nI ns) (hC : LkC G nl D) (hG : GrOK ns nl G) (hL : Lev nl G lv) (hO : OlOK G nl ol) (hls : ls 1 = ol.map (fun k => A (400 + k)))
    (hsl : ∀ k, k < nl → D.FI 330 (400 + k) = nI (sl k) ∧ sl k ≤ 99)
    (kt1 : ¬ inR x ns → Ψ S "java/lang/IndexOutOfBoundsException")
    (kk : ∀ s Q, s < ns → x = nI s → Slk G nl sl Q → ∀ S' D', Rep A E ls nl nc nd S' D' → SamJ (fun r => r = 30 ∨ r = 31) D D' → RowV D' 0 14 Q → Φ S') : wX7_findSlacks S (A 0) x Φ Ψ := by
  have h14 := hG.1
  have hnl := hG.2.1
  unfold wX7_findSlacks wX7_findSlacks_b0
  refine ⟨c_is h, p_checkShaft h hns h14 (fun s hs es => ⟨c_is h, A 9, rep_fr h (456, 0, 9) (by decide), (row_ h (p := 0) (by decide)).1, p_reset (p := 0) h (by decide) (fun S5 r5 => ?_)⟩) kt1⟩
  obtain ⟨Q, hQ⟩ := slk_ex hL sl
  have hQ0 : ∀ t, drv G nl t = none → Q t = 0 := fun t ht => by rw [hQ t, ht]
  have g0 : RowV ((D.fillJ 30 14 0).fillJ 31 14 1) 0 14 (fun _ => 0) := rowV_fill (D := D) (p := 0) (n := 14)
  have s0 : SamJ (fun r => r = 30 ∨ r = 31) D ((D.fillJ 30 14 0).fillJ 31 14 1) := samJ_fill (p := 0) (Or.inl rfl) (Or.inr rfl)
  have r5' : Rep A E ls nl nc nd S5 ((D.fillJ 30 14 0).fillJ 31 14 1) := r5
  generalize ((D.fillJ 30 14 0).fillJ 31 14 1) = D0 at *
  refine it2_ex (fun j S3 v => v = nI j ∧ ∃ D3, Rep A E ls nl nc nd S3 D3 ∧ SamJ (fun r => r = 30 ∨ r = 31) D D3 ∧ RowV D3 0 14 (Tg G Q (fun _ => 0) (ol.take j))) ol.length ?_ ?_ ⟨rfl, D0, r5', s0, by rw [List.take_zero, tg_nil]; exact g0⟩
  · rintro j hj S3 _ k9 ⟨rfl, D3, r3, s3, g3⟩ hk9
    have hol := hO.1
    have hel : ol[j]? = some ol[j] := List.getElem?_eq_getElem hj
    generalize ol[j] = k at hel
    obtain ⟨hk, hnot, hsrc⟩ := hO.2.2 j k hel
    obtain ⟨hkk, f1, f2, f3⟩ := hG.2.2.1 k hk
    have hC3 := lkC_sam hC s3.1
    have lk := lkS_of r3 hC3 hk (by omega)
    have hlen : (ls 1).length = ol.length := by rw [hls, List.length_map]
    have hdk := drv_of hG hk
    unfold wX7_findSlacks_b14
    refine ⟨c_is r3, A (1 + 1), rep_fr r3 (449, 0, 2) (by decide), ls_is r3 (by decide), p_size r3 (j := 1) (by decide) (if_n ?_ ⟨c_is r3, A (1 + 1), rep_fr r3 (449, 0, 2) (by decide), ls_is r3 (by decide), p_get (x := A (400 + k)) r3 (j := 1) (by decide) ?_ ⟨A (400 + k), rfl, lk.1, c_is r3, A 9, rep_fr r3 (456, 0, 9) (by decide), (row_ r3 (p := 0) (by decide)).1, ?_⟩⟩)⟩
    · rw [hlen]
      exact nI_ge hj (by omega)
    · rw [hls, List.getElem?_map, hel]
      rfl
    have v330 : S3.FI 330 (A (400 + k)) = nI (sl k) := (rep_FI r3 330 (by decide) (al_l hk)).trans (by rw [s3.1]; exact (hsl k hk).1)
    have s99 := (hsl k hk).2
    rw [lk.2.2.2.2.2.1, v330, nI64 (by omega)]
    have d1 : ∀ k', k' < nl → G k' 3 = G k 1 → k' ∈ ol.take j := fun k' hk' e => hsrc k' hk' (Or.inl e)
    have d2 : G k 0 = 112 → ∀ k', k' < nl → G k' 3 = G k 2 → k' ∈ ol.take j := fun hp k' hk' e => hsrc k' hk' (Or.inr ⟨hp, e⟩)
    have tQ1 : Tg G Q (fun _ => 0) (ol.take j) (G k 1) = Q (G k 1) := tg_all hQ0 d1
    have tQ2 : G k 0 = 112 → Tg G Q (fun _ => 0) (ol.take j) (G k 2) = Q (G k 2) := fun hp => tg_all hQ0 (d2 hp)
    have n1 : G k 1 ≠ G k 3 := fun e => by
      have := hL.1 k (G k 1) hk (Or.inl rfl)
      rw [e] at this
      omega
    have n2 : G k 0 = 112 → G k 2 ≠ G k 3 := fun hp e => by
      have := hL.1 k (G k 2) hk (Or.inr ⟨hp, rfl⟩)
      rw [e] at this
      omega
    refine p_put (p := 0) (o := ((sl k : Nat) : Int)) (u := 1) r3 (by decide) (by show G k 3 < 14; omega) (rg_n (by omega)) rg_1 (by decide) (fun S16 r16 => ?_)
    have e1 : Rat.divInt ((sl k : Nat) : Int) ((1 : Nat) : Int) = (sl k : Rat) := q_self ((sl k : Nat) : Rat)
    rw [e1] at r16
    have g16 : RowV (putQ D3 0 (G k 3) (sl k : Rat)) 0 14 (vup (Tg G Q (fun _ => 0) (ol.take j)) (G k 3) (sl k : Rat)) := rowV_put g3
    have s16 : SamJ (fun r => r = 30 ∨ r = 31) D (putQ D3 0 (G k 3) (sl k : Rat)) := s3.tr (samJ_put (p := 0) (Or.inl rfl) (Or.inr rfl))
    generalize putQ D3 0 (G k 3) (sl k : Rat) = D16 at *
    have hC16 := lkC_sam hC s16.1
    have lk16 := lkS_of r16 hC16 hk (by omega)
    refine ⟨c_is r16, A 9, rep_fr r16 (456, 0, 9) (by decide), lk16.1, p_over lk16 hkk (fun v _ hv2 => ⟨lk16.1, ?_⟩)⟩
    have ov := ov_le hkk
    rw [abs32 (N := (ovz G k).natAbs) (by rw [hv2]) (by omega)]
    have V3 : vup (Tg G Q (fun _ => 0) (ol.take j)) (G k 3) (sl k : Rat) (G k 3) = (sl k : Rat) := if_pos rfl
    have V1 : vup (Tg G Q (fun _ => 0) (ol.take j)) (G k 3) (sl k : Rat) (G k 1) = Q (G k 1) := (if_neg n1).trans tQ1
    have V2 : G k 0 = 112 → vup (Tg G Q (fun _ => 0) (ol.take j)) (G k 3) (sl k : Rat) (G k 2) = Q (G k 2) := fun hp => (if_neg (n2 hp)).trans (tQ2 hp)
    have qb := slk_bd hG hL (fun k hk => (hsl k hk).2) hQ
    obtain ⟨M, B1, B2, B3, w1, w2, w3, w4, w5, w6⟩ := sh_num (e := sl k) (ov := (((ovz G k).natAbs : Nat) : Int)) hG hL hk s99 (by rw [Int.natAbs_natCast]; exact ov) V3 (by rw [V1]; exact qb _) (fun hp => by rw [V2 hp]; exact qb _)
    refine p_carry (p := 0) r16 (by decide) rfl hC16 hG hL hk (nI64 (by omega)) g16 w1 w2 w3 w4 w5 w6 (fun S23 r23 => ?_)
    rw [← nI_succ]
    refine hk9 _ _ ⟨rfl, _, r23, s16.tr (samJ_put (p := 0) (Or.inl rfl) (Or.inr rfl)), ?_⟩
    rw [take_succ hel]
    refine rowV_congr (rowV_put g16) (fun t _ => ?_)
    rw [tg_succ]
    unfold vup
    by_cases ct : t = G k 3
    · have eQ : Q (G k 3) = (sl k : Rat) + cry G k ((ovz G k).natAbs : Nat) Q := by
        rw [hQ (G k 3), hdk]
      rw [if_pos ct, if_pos ct, if_pos rfl, eQ]
      exact congrArg (fun z => (sl k : Rat) + z) (cry_congr V1 V2)
    · rw [if_neg ct, if_neg ct, if_neg ct]
  · rintro S3 _ k9 ⟨rfl, D3, r3, s3, g3⟩
    have hlen : (ls 1).length = ol.length := by rw [hls, List.length_map]
    have hol := hO.1
    rw [List.take_length] at g3
    have eQ : Tg G Q (fun _ => 0) ol = Q := funext fun t => tg_all hQ0 (fun k hk _ => hO.2.1 k hk)
    rw [eQ] at g3
    unfold wX7_findSlacks_b14
    refine ⟨c_is r3, A (1 + 1), rep_fr r3 (449, 0, 2) (by decide), ls_is r3 (by decide), p_size r3 (j := 1) (by decide) (if_p ?_ (kk s Q hs es hQ S3 D3 r3 s3 g3))⟩
    rw [hlen]
    exact nI_le (Nat.le_refl _) (by omega)
theorem p_slackOfOverC {Φ : Hp → Int64 → Prop} {Ψ : Hp → String → Prop} {ns : Nat} {x : Int32} {lv : Nat → Nat} {ol : List Nat} {sl : Nat → Nat} (h : Rep A E ls nl nc nd S D) (hns : D.FI 461 0 = nI ns) (hC : LkC G nl D) (hG : GrOK ns nl G) (hL : Lev nl G lv) (hO : OlOK G nl ol) (hls : ls 1 = ol.map (fun k => A (400 + k)))
    (hsl : ∀ k, k < nl → D.FI 330 (400 + k) = nI (sl k) ∧ sl k ≤ 99)
    (kt1 : ¬ inR x ns → Ψ S "java/lang/IndexOutOfBoundsException")
    (kk : ∀ s Q, s < ns → x = nI s → Slk G nl sl Q → ∀ S' D', Rep A E ls nl nc nd S' D' → SamJ (fun r => r = 30 ∨ r = 31) D D' → Φ S' (i6 (Q s).num)) : wX7_slackOfOver S (A 0) x Φ Ψ := by
  have h14 := hG.1
  unfold wX7_slackOfOver wX7_slackOfOver_b0
  refine ⟨c_is h, p_findSlacks h hns hC hG hL hO hls hsl kt1 (fun s Q hs es hQ S' D' r' s' g' => ⟨c_is r', A 9, rep_fr r' (456, 0, 9) (by decide), (row_ r' (p := 0) (by decide)).1, ?_⟩)⟩
  rw [es]
  refine p_overAt (p := 0) r' (by decide) (by show s < 14; omega) ?_
  rw [(g' s (by omega)).1]
  exact kk s Q hs es hQ S' D' r' s'
theorem p_slackOfUnderC {Φ : Hp → Int64 → Prop} {Ψ : Hp → String → Prop} {ns : Nat} {x : Int32} {lv : Nat → Nat} {ol : List Nat} {sl : Nat → Nat} (h : Rep A E ls nl nc nd S D) (hns : D.FI 461 0 = nI ns) (hC : LkC G nl D) (hG : GrOK ns nl G) (hL : Lev nl G lv) (hO : OlOK G nl ol) (hls : ls 1 = ol.map (fun k => A (400 + k)))
    (hsl : ∀ k, k < nl → D.FI 330 (400 + k) = nI (sl k) ∧ sl k ≤ 99)
    (kt1 : ¬ inR x ns → Ψ S "java/lang/IndexOutOfBoundsException")
    (kk : ∀ s Q, s < ns → x = nI s → Slk G nl sl Q → ∀ S' D', Rep A E ls nl nc nd S' D' → SamJ (fun r => r = 30 ∨ r = 31) D D' → Φ S' (i6 (Q s).den)) : wX7_slackOfUnder S (A 0) x Φ Ψ := by
  have h14 := hG.1
  unfold wX7_slackOfUnder wX7_slackOfUnder_b0
  refine ⟨c_is h, p_findSlacks h hns hC hG hL hO hls hsl kt1 (fun s Q hs es hQ S' D' r' s' g' => ⟨c_is r', A 9, rep_fr r' (456, 0, 9) (by decide), (row_ r' (p := 0) (by decide)).1, ?_⟩)⟩
  rw [es]
  refine p_underAt (p := 0) r' (by decide) (by show s < 14; omega) ?_
  rw [(g' s (by omega)).2]
  exact kk s Q hs es hQ S' D' r' s'
end SL9
