/-! THE CLASS: ratios -/
def Tg {T : Type} (G : Nat → Nat → Nat) (F F0 : Nat → T) (l : List Nat) (s : Nat) : T := if l.any (fun k => decide (G k 3 = s)) = true then F s else F0 s
theorem tg_nil {T : Type} {G : Nat → Nat → Nat} {F F0 : Nat → T} : Tg G F F0 [] = F0 := by
  funext s
  exact if_neg (by simp)
theorem tg_all {T : Type} {G : Nat → Nat → Nat} {nl : Nat} {F F0 : Nat → T} {l : List Nat} (h0 : ∀ s, drv G nl s = none → F s = F0 s) {s : Nat} (h : ∀ k, k < nl → G k 3 = s → k ∈ l) : Tg G F F0 l s = F s := by
  unfold Tg
  by_cases c : l.any (fun k => decide (G k 3 = s)) = true
  · rw [if_pos c]
  · rw [if_neg c]
    refine (h0 s (drv_none.mpr (fun k hk e => c ?_))).symm
    simp only [List.any_eq_true, decide_eq_true_eq]
    exact ⟨k, h k hk e, e⟩
theorem tg_succ {T : Type} {G : Nat → Nat → Nat} {F F0 : Nat → T} {l : List Nat} {k s : Nat} : Tg G F F0 (l ++ [k]) s = if s = G k 3 then F (G k 3) else Tg G F F0 l s := by
  unfold Tg
  rw [List.any_append]
  by_cases e : s = G k 3
  · rw [if_pos e, if_pos (by simp [e]), e]
  · rw [if_neg e]
    have e2 : [k].any (fun k => decide (G k 3 = s)) = false := by
      simp
      exact fun q => e q.symm
    rw [e2, Bool.or_false]
theorem tg_new {T : Type} {ns nl : Nat} {G : Nat → Nat → Nat} {F F0 : Nat → T} {l : List Nat} {k : Nat} (hG : GrOK ns nl G) (hk : k < nl) (hl : ∀ k', k' ∈ l → k' < nl) (hn : k ∉ l) : Tg G F F0 l (G k 3) = F0 (G k 3) := by
  unfold Tg
  refine if_neg (fun q => ?_)
  simp only [List.any_eq_true, decide_eq_true_eq] at q
  obtain ⟨k', q1, q2⟩ := q
  have := hG.2.2.2 k' k (hl k' q1) hk q2
  rw [this] at q1
  exact hn q1
theorem ol_mem {G : Nat → Nat → Nat} {nl j : Nat} {ol : List Nat} (hO : OlOK G nl ol) : ∀ k, k ∈ ol.take j → k < nl := fun k hk => by
  obtain ⟨j', hj'⟩ := List.getElem?_of_mem (List.mem_of_mem_take hk)
  exact (hO.2.2 j' k hj').1
section RA9
variable {A E : Nat → Nat} {ls : Nat → List Nat} {nl nc nd : Nat} {S : Hp} {D : Dt} {G : Nat → Nat → Nat}
theorem p_isJerky {Φ : Hp → Int32 → Prop} {q k : Nat} (h : LkS G S q k) (hk : kOK G k) (kk : Φ S (bI (jrk G k))) : wX5_isJerky S q Φ := by
  have lt := (kOK_lt hk).1
  unfold wX5_isJerky wX5_isJerky_b0 wX5_isJerky_b18
  rw [h.2.2.1]
  refine ⟨h.1, ?_⟩
  unfold jrk at kk
  by_cases c1 : G k 0 = 118
  · rw [decide_eq_true c1] at kk
    exact if_p (by rw [c1]; rfl) kk
  · rw [decide_eq_false c1, Bool.false_or] at kk
    refine if_n (fun q => c1 ((nI_lit lt (by decide)).mp q)) ?_
    by_cases c2 : G k 0 = 114
    · rw [decide_eq_true c2] at kk
      exact fi_p (by rw [c2]; rfl) kk
    · rw [decide_eq_false c2] at kk
      exact fi_n (fun q => c2 ((nI_lit lt (by decide)).mp q)) kk
/-- what a carry of shares needs of numbers -/
theorem sh_num {ns k : Nat} {lv : Nat → Nat} {V : Nat → Rat} {e : Nat} {ov : Int} (hG : GrOK ns nl G) (hL : Lev nl G lv) (hk : k < nl) (he : e ≤ 99) (hov : ov.natAbs ≤ 30) (hV0 : V (G k 3) = (e : Rat)) (b1 : Bd (dQ G nl 3 (G k 1)).1 (298 * (dQ G nl 3 (G k 1)).2) (V (G k 1))) (b2 : G k 0 = 112 → Bd (dQ G nl 3 (G k 2)).1 (298 * (dQ G nl 3 (G k 2)).2) (V (G k 2))) :
    ∃ M B1 B2 B3, Bd (M * unz G k) B1 (V (G k 3)) ∧ Bd M B2 (V (G k 1)) ∧ (G k 0 = 112 → Bd M B3 (V (G k 2))) ∧ 0 < M ∧ M * 60 < 9223372036854775808 ∧ B1 + B2 * ov.natAbs + B3 * 30 < 9223372036854775808 := by
  obtain ⟨s1, s2, s3, s4, s5⟩ := src_le hG hL hk
  have u := unz_pos (hG.2.2.1 k hk).1
  by_cases hp : G k 0 = 112
  · obtain ⟨s6, s7⟩ := s5 hp
    have t1 := bd_scale (dQ G nl 3 (G k 2)).1 b1
    have t2 := bd_scale (dQ G nl 3 (G k 1)).1 (b2 hp)
    rw [Nat.mul_comm (dQ G nl 3 (G k 2)).1] at t2
    have l1 : (dQ G nl 3 (G k 1)).1 * (dQ G nl 3 (G k 2)).1 ≤ 216000 * 216000 := Nat.mul_le_mul s2 s6
    have l2 : (dQ G nl 3 (G k 1)).2 * (dQ G nl 3 (G k 2)).1 ≤ 216000 * 216000 := Nat.mul_le_mul s3 s6
    have l3 : (dQ G nl 3 (G k 2)).2 * (dQ G nl 3 (G k 1)).1 ≤ 216000 * 216000 := Nat.mul_le_mul s7 s2
    have l4 : 298 * (dQ G nl 3 (G k 1)).2 * (dQ G nl 3 (G k 2)).1 ≤ 298 * (216000 * 216000) := by
      rw [Nat.mul_assoc]
      exact Nat.mul_le_mul_left _ l2
    have l5 : 298 * (dQ G nl 3 (G k 2)).2 * (dQ G nl 3 (G k 1)).1 ≤ 298 * (216000 * 216000) := by
      rw [Nat.mul_assoc]
      exact Nat.mul_le_mul_left _ l3
    refine ⟨_, 99 * (216000 * 216000 * 60), _, _, ?_, t1, fun _ => t2, Nat.mul_pos s1 s4, by omega, ?_⟩
    · rw [hV0]
      refine bd_int (z := (e : Int)) ?_
      rw [Int.natAbs_natCast]
      exact Nat.mul_le_mul he (Nat.mul_le_mul l1 u.2)
    · have l6 : 298 * (dQ G nl 3 (G k 1)).2 * (dQ G nl 3 (G k 2)).1 * ov.natAbs ≤ 298 * (216000 * 216000) * 30 := Nat.mul_le_mul l4 hov
      omega
  · refine ⟨_, 99 * (216000 * 60), _, 0, ?_, b1, fun q => absurd q hp, s1, by omega, ?_⟩
    · rw [hV0]
      refine bd_int (z := (e : Int)) ?_
      rw [Int.natAbs_natCast]
      exact Nat.mul_le_mul he (Nat.mul_le_mul s2 u.2)
    · have l6 : 298 * (dQ G nl 3 (G k 1)).2 * ov.natAbs ≤ 298 * 216000 * 30 := Nat.mul_le_mul (Nat.mul_le_mul_left _ s3) hov
      omega
theorem ov_le {k : Nat} (hk : kOK G k) : (ovz G k).natAbs ≤ 30 := by
  have h4 := (kOK_lt hk).2.1
  unfold ovz
  by_cases c : G k 0 = 103
  · rw [if_pos c, Int.natAbs_neg, Int.natAbs_natCast]
    exact h4
  · rw [if_neg c]
    by_cases c2 : G k 0 = 105 ∨ G k 0 = 112
    · rw [if_pos c2, Int.natAbs_natCast]
      exact h4
    · rw [if_neg c2]
      decide
theorem p_spread {Φ : Hp → Prop} {ns k : Nat} {lv : Nat → Nat} {rf rr bf br eng brk : Bool} {V : Nat → Rat} (h : Rep A E ls nl nc nd S D) (hC : LkC G nl D) (hG : GrOK ns nl G) (hL : Lev nl G lv) (hk : k < nl)
    (e1 : D.AI 7 (G k 1) = bI rf) (e2 : G k 0 = 112 → D.AI 7 (G k 2) = bI rr) (e3 : D.AI 8 (G k 1) = bI bf) (e4h : G k 0 = 112 → D.AI 8 (G k 2) = bI br) (he : D.FI 327 (400 + k) = bI eng) (hb : D.FI 328 (400 + k) = bI brk)
    (hV : RowV D 0 14 V) (hV0 : V (G k 3) = 0) (b1 : Bd (dQ G nl 3 (G k 1)).1 (298 * (dQ G nl 3 (G k 1)).2) (V (G k 1))) (b2 : G k 0 = 112 → Bd (dQ G nl 3 (G k 2)).1 (298 * (dQ G nl 3 (G k 2)).2) (V (G k 2)))
    (kk : ∀ S' D', Rep A E ls nl nc nd S' D' → SamG (fun _ _ => False) (fun r => r = 7 ∨ r = 8) (fun r => r = 30 ∨ r = 31) D D' → (∀ s, D'.AI 7 s = if s = G k 3 then bI (rf || (decide (G k 0 = 112) && rr)) else D.AI 7 s) → (∀ s, D'.AI 8 s = if s = G k 3 then bI (bf || (decide (G k 0 = 112) && br) || ((rf || (decide (G k 0 = 112) && rr)) && (jrk G k && !brk))) else D.AI 8 s) → RowV D' 0 14 (if (eng && !brk) = true then vup V (G k 3) (cry G k (ovz G k) V) else V) → Φ S') : wX7_spread S (A 0) (A (400 + k)) Φ := by
  have hns := hG.1
  have hnl := hG.2.1
  obtain ⟨hkk, g1, g2, g3⟩ := hG.2.2.1 k hk
  have lk := lkS_of h hC hk (by omega)
  have n7 : ∀ S D, Rep A E ls nl nc nd S D → ∀ s, s < 14 → vp_in (nI s) (S.N (A 7)) := fun S D h s hs => by
    rw [rep_N h (al_s (r := 7) (by decide)) (n := 14) (by decide)]
    exact in_nI hs (by decide)
  have n8 : ∀ S D, Rep A E ls nl nc nd S D → ∀ s, s < 14 → vp_in (nI s) (S.N (A 8)) := fun S D h s hs => by
    rw [rep_N h (al_s (r := 8) (by decide)) (n := 14) (by decide)]
    exact in_nI hs (by decide)
  have i7 : ∀ S D, Rep A E ls nl nc nd S D → isA S (A 7) 23 := fun S D h => rep_is h (al_s (by decide)) (by decide)
  have i8 : ∀ S D, Rep A E ls nl nc nd S D → isA S (A 8) 23 := fun S D h => rep_is h (al_s (by decide)) (by decide)
  -- the last piece
  have last : ∀ S4 D4, Rep A E ls nl nc nd S4 D4 → (SamG (fun _ _ => False) (fun r => r = 7) (fun _ => False) D D4) → (∀ s, D4.AI 7 s = if s = G k 3 then bI (rf || (decide (G k 0 = 112) && rr)) else D.AI 7 s) → ∀ w : Bool, w = (bf || (decide (G k 0 = 112) && br) || ((rf || (decide (G k 0 = 112) && rr)) && (jrk G k && !brk))) → wX7_spread_b115 (A 0) (A (400 + k)) Φ S4 (A 8) (nI (G k 3)) (bI w) := by
    intro S4 D4 r4 s4 a4 w hw
    unfold wX7_spread_b115
    refine ⟨i8 _ _ r4, n8 _ _ r4 _ (by omega), nb_bI _, fun S5 e5 => ?_⟩
    rw [cl_nI (by omega)] at e5
    obtain ⟨D5, r5, u5, j5, o5, i5⟩ := t_setAI (r := 8) r4 (al_s (by decide)) e5
    have hC5 : LkC G nl D5 := lkC_cg hC (fun i r _ _ => by rw [u5]; exact s4.1 i r (fun q => q))
    have lk5 := lkS_of r5 hC5 hk (by omega)
    have ve : S5.FI 327 (A (400 + k)) = bI eng := (rep_FI r5 327 (by decide) (al_l hk)).trans (by rw [u5, s4.1 _ _ (fun q => q)]; exact he)
    have vb : S5.FI 328 (A (400 + k)) = bI brk := (rep_FI r5 328 (by decide) (al_l hk)).trans (by rw [u5, s4.1 _ _ (fun q => q)]; exact hb)
    have hV5 : RowV D5 0 14 V := rowV_other hV (by rw [j5]; exact s4.2.2 _ (fun q => q)) (by rw [j5]; exact s4.2.2 _ (fun q => q))
    have f7 : ∀ s, D5.AI 7 s = if s = G k 3 then bI (rf || (decide (G k 0 = 112) && rr)) else D.AI 7 s := fun s => by
      rw [o5 7 (by decide)]
      exact a4 s
    have f8 : ∀ s, D5.AI 8 s = if s = G k 3 then bI (bf || (decide (G k 0 = 112) && br) || ((rf || (decide (G k 0 = 112) && rr)) && (jrk G k && !brk))) else D.AI 8 s := fun s => by
      rw [i5 s, s4.2.1 8 (by decide), ← hw]
    have s5 : SamG (fun _ _ => False) (fun r => r = 7 ∨ r = 8) (fun r => r = 30 ∨ r = 31) D D5 := ⟨fun i r hr => by rw [u5]; exact s4.1 i r hr, fun r hr => by rw [o5 r (fun q => hr (Or.inr q))]; exact s4.2.1 r (fun q => hr (Or.inl q)), fun r _ => by rw [j5]; exact s4.2.2 r (fun q => q)⟩
    refine ⟨lk5.1, p_doesActL lk5.1 ve vb ?_⟩
    cases ea : (eng && !brk) with
    | false =>
      refine if_p rfl (kk S5 D5 r5 s5 f7 f8 ?_)
      rw [ea]
      exact hV5
    | true =>
      refine if_n (by decide) ⟨c_is r5, A 9, rep_fr r5 (456, 0, 9) (by decide), lk5.1, p_over lk5 hkk (fun v hv1 _ => ⟨lk5.1, ?_⟩)⟩
      obtain ⟨M, B1, B2, B3, w1, w2, w3, w4, w5, w6⟩ := sh_num (e := 0) (ov := ovz G k) hG hL hk (by decide) (ov_le hkk) hV0 b1 b2
      refine p_carry (p := 0) r5 (by decide) rfl hC5 hG hL hk hv1 hV5 w1 w2 w3 w4 w5 w6 (fun S14 r14 => kk S14 _ r14 ?_ f7 f8 ?_)
      · exact s5.tr (SamJ.G (X := fun r => r = 30 ∨ r = 31) (samJ_put (Or.inl rfl) (Or.inr rfl)))
      · rw [ea, if_pos rfl]
        have := rowV_put (i := G k 3) (q := V (G k 3) + cry G k (ovz G k) V) hV5
        rw [hV0, Rat.zero_add] at this
        rw [hV0, Rat.zero_add]
        exact this
  -- behind the first bits
  have mid : ∀ z : Bool, z = (rf || (decide (G k 0 = 112) && rr)) → wX7_spread_b44 (A 0) (A (400 + k)) Φ S (A 7) (nI (G k 3)) (bI z) := by
    intro z hz
    unfold wX7_spread_b44
    refine ⟨i7 _ _ h, n7 _ _ h _ (by omega), nb_bI _, fun S4 e4 => ?_⟩
    rw [cl_nI (by omega)] at e4
    obtain ⟨D4, r4, u4, j4, o4, a4⟩ := t_setAI (r := 7) h (al_s (by decide)) e4
    rw [hz] at a4
    have s4 : SamG (fun _ _ => False) (fun r => r = 7) (fun _ => False) D D4 := ⟨fun _ _ _ => by rw [u4], o4, fun _ _ => by rw [j4]⟩
    have hC4 : LkC G nl D4 := lkC_cg hC (fun i r _ _ => by rw [u4])
    have lk4 := lkS_of r4 hC4 hk (by omega)
    have v1 : S4.AI (A 8) (nI (G k 1)).toNatClampNeg = bI bf := rd_I r4 (al_s (by decide)) (by omega) (by rw [o4 8 (by decide)]; exact e3)
    rw [lk4.2.2.2.1, lk4.2.2.2.2.2.1]
    refine ⟨c_is r4, A 8, rep_fr r4 (455, 0, 8) (by decide), lk4.1, A 8, rep_fr r4 (455, 0, 8) (by decide), i8 _ _ r4, n8 _ _ r4 _ (by omega), ?_⟩
    rw [v1]
    have b84 : (bf || (decide (G k 0 = 112) && br)) = false → wX7_spread_b84 (A 0) (A (400 + k)) Φ S4 (A 8) (nI (G k 3)) := fun hfl => by
      unfold wX7_spread_b84 wX7_spread_b114 wX7_spread_b110
      have v7 : S4.AI (A 7) (nI (G k 3)).toNatClampNeg = bI z := rd_I r4 (al_s (by decide)) (by omega) (by rw [a4, if_pos rfl, hz])
      have vb : S4.FI 328 (A (400 + k)) = bI brk := (rep_FI r4 328 (by decide) (al_l hk)).trans (by rw [u4]; exact hb)
      rw [lk4.2.2.2.2.2.1]
      refine ⟨c_is r4, A 7, rep_fr r4 (454, 0, 7) (by decide), lk4.1, i7 _ _ r4, n7 _ _ r4 _ (by omega), ?_⟩
      rw [v7]
      have L := last S4 D4 r4 s4 a4
      rw [hfl, ← hz, Bool.false_or] at L
      cases ez : z with
      | false =>
        refine if_p rfl (L false ?_)
        rw [ez]
        rfl
      | true =>
        refine if_n (by decide) (p_isJerky lk4 hkk ?_)
        rw [ez, Bool.true_and] at L
        cases ej : jrk G k with
        | false =>
          refine if_p rfl (L false ?_)
          rw [ej]
          rfl
        | true =>
          rw [ej, Bool.true_and] at L
          refine if_n (by decide) ⟨lk4.1, ?_⟩
          rw [vb]
          cases ek : brk with
          | false => exact fi_p rfl (L true (by rw [ek]; rfl))
          | true => exact fi_n (by decide) (L false (by rw [ek]; rfl))
    have b110 : (bf || (decide (G k 0 = 112) && br)) = true → wX7_spread_b110 (A 0) (A (400 + k)) Φ S4 (A 8) (nI (G k 3)) := fun hfl => by
      unfold wX7_spread_b110
      exact last S4 D4 r4 s4 a4 true (by rw [hfl, Bool.true_or])
    cases ebf : bf with
    | true => exact fi_n (by decide) (b110 (by rw [ebf]; rfl))
    | false =>
      refine fi_p rfl (p_hasSecond lk4 (fun q => by have := g2 q; omega) (fun hp => if_n (by decide) ⟨c_is r4, A 8, rep_fr r4 (455, 0, 8) (by decide), lk4.1, ?_⟩) (fun hp => if_p rfl (b84 (by rw [ebf, decide_eq_false hp]; rfl))))
      have hg2 := g2 hp
      have v2 : S4.AI (A 8) (nI (G k 2)).toNatClampNeg = bI br := rd_I r4 (al_s (by decide)) (by omega) (by rw [o4 8 (by decide)]; exact e4h hp)
      rw [lk4.2.2.2.2.1]
      unfold sec
      rw [if_pos hp, v2]
      refine ⟨i8 _ _ r4, n8 _ _ r4 _ (by omega), ?_⟩
      cases ebr : br with
      | true => exact fi_n (by decide) (b110 (by rw [ebf, ebr, decide_eq_true hp]; rfl))
      | false => exact fi_p rfl (b84 (by rw [ebf, ebr, decide_eq_true hp]; rfl))
  unfold wX7_spread wX7_spread_b0 wX7_spread_b39 wX7_spread_b43
  have v1 : S.AI (A 7) (nI (G k 1)).toNatClampNeg = bI rf := rd_I h (al_s (by decide)) (by omega) e1
  rw [lk.2.2.2.1, lk.2.2.2.2.2.1]
  refine ⟨c_is h, A 7, rep_fr h (454, 0, 7) (by decide), lk.1, A 7, rep_fr h (454, 0, 7) (by decide), i7 _ _ h, n7 _ _ h _ (by omega), ?_⟩
  rw [v1]
  cases erf : rf with
  | true => exact fi_n (by decide) (mid true (by rw [erf]; rfl))
  | false =>
    refine fi_p rfl (p_hasSecond lk (fun q => by have := g2 q; omega) (fun hp => if_n (by decide) ⟨c_is h, A 7, rep_fr h (454, 0, 7) (by decide), lk.1, ?_⟩) (fun hp => if_p rfl (mid false (by rw [erf, decide_eq_false hp]; rfl))))
    have hg2 := g2 hp
    have v2 : S.AI (A 7) (nI (G k 2)).toNatClampNeg = bI rr := rd_I h (al_s (by decide)) (by omega) (e2 hp)
    rw [lk.2.2.2.2.1]
    unfold sec
    rw [if_pos hp, v2]
    refine ⟨i7 _ _ h, n7 _ _ h _ (by omega), ?_⟩
    cases err : rr with
    | true => exact if_n (by decide) (mid true (by rw [erf, err, decide_eq_true hp]; rfl))
    | false => exact if_p rfl (mid false (by rw [erf, err, decide_eq_true hp]; rfl))
end RA9
