/-! THE REFERENCE: ratio, slackAt, slackOf -/
section MV9
variable {A E : Nat → Nat} {ls : Nat → List Nat} {nl nc nd : Nat} {S : Hp} {D : Dt} {G : Nat → Nat → Nat}
theorem Thr.T {c : Int32} {D D' D'' : Dt} (h : Thr c D D') (h' : SamT D' D'') : Thr c D D'' := ⟨⟨fun i r hr => by rw [h'.1]; exact h.1.1 i r hr, fun r hr => by rw [h'.2.1]; exact h.1.2.1 r hr, fun r hr => by rw [h'.2.2]; exact h.1.2.2 r hr⟩, by rw [h'.1]; exact h.2⟩
def pick (b : Bool) (q : Rat) : Int64 := if b then i6 q.num else i6 q.den
theorem p_ratioM {Φ : Hp → Int64 → Prop} {ns : Nat} {x y : Int32} {ov : Bool} {eng brk : Nat → Bool} {lv : Nat → Nat} (h : Rep A E ls nl nc nd S D) (hG : GrOK ns nl G) (hL : Lev nl G lv) (hns : D.FI 543 70 = nI ns) (hM : LkM G nl D) (hdr : DrA G nl ns 79 D) (hb : ∀ k, k < nl → D.AI 88 k = bI (brk k)) (he : ∀ k, k < nl → D.AI 87 k = bI (!eng k))
    (k1 : ¬ (inR x ns ∧ inR y ns) → ∀ S' D', Rep A E ls nl nc nd S' D' → Thr 1 D D' → Φ S' 0)
    (k2 : ∀ s inp, s < ns → inp < ns → x = nI s → y = nI inp → drv G nl inp ≠ none → ∀ S' D', Rep A E ls nl nc nd S' D' → Thr 2 D D' → Φ S' 0)
    (k3 : ∀ s inp, s < ns → inp < ns → x = nI s → y = nI inp → drv G nl inp = none → ∃ B Q, UnV G nl inp brk B ∧ Shr G nl inp (fun k => eng k && !brk k) Q ∧ (B s = true → ∀ S' D', Rep A E ls nl nc nd S' D' → Thr 2 D D' → Φ S' 0) ∧ (B s = false → ∀ S' D', Rep A E ls nl nc nd S' D' → Thr 0 D D' → Φ S' (pick ov (Q s)))) : wX8_ratio S (A 70) x y (bI ov) Φ := by
  have h14 := hG.1
  unfold wX8_ratio wX8_ratio_b0
  refine ⟨m_is h, t_isNoShaft h hns h14 ?_⟩
  by_cases cx : inR x ns
  · rw [inRb_t.mpr cx]
    refine fi_p rfl ⟨m_is h, t_isNoShaft h hns h14 ?_⟩
    by_cases cy : inR y ns
    · rw [inRb_t.mpr cy]
      refine if_p rfl ?_
      obtain ⟨s, hs, rfl⟩ := inR_ex cx (by omega)
      obtain ⟨inp, hi, rfl⟩ := inR_ex cy (by omega)
      unfold wX8_ratio_b22 wX8_ratio_b49
      refine ⟨m_is h, t_isThrown false h rfl (fun _ S1 D1 r1 t1 => fi_p rfl ⟨m_is r1, ?_⟩) (fun e => absurd e (by decide))⟩
      have a79 := m_arr r1 519 79 21 14
      have v79 : S1.AI (A 79) (nI inp).toNatClampNeg = match drv G nl inp with | none => -1 | some k => nI k := rd_I r1 (al_s (by decide)) (by omega) (by rw [t1.AI]; exact hdr inp hi)
      refine ⟨A 79, a79.1, a79.2.1, by rw [a79.2.2]; exact in_nI (by omega) (by decide), ?_⟩
      rw [v79]
      unfold wX8_ratio_b54
      cases hd : drv G nl inp with
      | some k0 =>
        have := (drv_some hd).1
        have := hG.2.1
        exact fi_n (nI_nm (by omega)) (g_1 r1 t1 (fun S2 D2 r2 t2 => if_n (by decide) (k2 s inp hs hi rfl rfl (by rw [hd]; exact fun q => by cases q) S2 D2 r2 t2)))
      | none =>
        obtain ⟨B, Q, hB, hQ, z1, z0⟩ := k3 s inp hs hi rfl rfl hd
        have hM1 : LkM G nl D1 := lkM_cg hM (fun r _ _ => by rw [t1.AI])
        have hdr1 : DrA G nl ns 79 D1 := drA_cg hdr (by rw [t1.AI])
        have hb1 : ∀ k, k < nl → D1.AI 88 k = bI (brk k) := fun k hk => by rw [t1.AI]; exact hb k hk
        refine fi_p rfl (p_isUnevenM hG hL hi hd hM1 hdr1 hb1 hB 19 s S1 _ r1 hs (by have := hL.2 s; omega) ?_)
        cases eB : B s with
        | true => exact if_n (by decide) (g_1 r1 t1 (fun S2 D2 r2 t2 => if_n (by decide) (z1 eB S2 D2 r2 t2)))
        | false =>
          refine if_p rfl (g_0 r1 t1 (fun S2 D2 r2 t2 => if_p rfl ⟨m_is r2, ?_⟩))
          have hM2 : LkM G nl D2 := lkM_cg hM (fun r _ _ => by rw [t2.AI])
          have hdr2 : DrA G nl ns 79 D2 := drA_cg hdr (by rw [t2.AI])
          have hb2 : ∀ k, k < nl → D2.AI 88 k = bI (brk k) := fun k hk => by rw [t2.AI]; exact hb k hk
          have he2 : ∀ k, k < nl → D2.AI 87 k = bI (!eng k) := fun k hk => by rw [t2.AI]; exact he k hk
          have fin : ∀ S' D', Rep A E ls nl nc nd S' D' → SamT D2 D' → TopQ D' (Q s) → wX8_ratio_b87 (A 70) (nI s) (nI inp) (bI ov) Φ S' := fun S' D' r' t' q' => by
            unfold wX8_ratio_b87
            obtain ⟨o1, o2⟩ := m_top r' q'
            rw [o1, o2]
            have z := z0 eB S' D' r' (t2.T t')
            cases ov with
            | true => exact if_n (by decide) ⟨m_is r', z⟩
            | false => exact if_p rfl ⟨m_is r', z⟩
          refine p_isBehind hG hL.1 hi hM2 hdr2 19 s S2 _ r2 hs (by have := hL.2 s; omega) ?_
          rw [bh_19 hL]
          cases eb : bh G nl inp s with
          | true => exact if_n (by decide) ⟨m_is r2, p_turnsM hG hL hi hd hM2 hdr2 hb2 he2 hB hQ 19 s S2 D2 _ r2 SamT.rf hs (by have := hL.2 s; omega) eB fin⟩
          | false =>
            refine if_p rfl ⟨m_is r2, t_result (N := 0) (Dn := 1) r2 rg_0 rg_1 (by decide) (fun S' D' h' s' t' => fin S' D' h' s' ?_)⟩
            rw [shr_bh hG hL hQ _ s (Nat.le_refl _) eb]
            exact t'
    · rw [show inRb y ns = false by cases e : inRb y ns; rfl; exact absurd (inRb_t.mp e) cy]
      refine if_n (by decide) ?_
      unfold wX8_ratio_b17 wX8_ratio_b22
      exact ⟨m_is h, t_isThrown true h rfl (fun e => absurd e (by decide)) (fun _ S1 D1 r1 t1 => fi_n (by decide) (k1 (fun q => cy q.2) S1 D1 r1 t1))⟩
  · rw [show inRb x ns = false by cases e : inRb x ns; rfl; exact absurd (inRb_t.mp e) cx]
    refine fi_n (by decide) ?_
    unfold wX8_ratio_b17 wX8_ratio_b22
    exact ⟨m_is h, t_isThrown true h rfl (fun e => absurd e (by decide)) (fun _ S1 D1 r1 t1 => fi_n (by decide) (k1 (fun q => cx q.1) S1 D1 r1 t1))⟩
/-- the top and a slack -/
theorem slk_sum {ns k : Nat} {lv : Nat → Nat} {e : Nat} {q : Rat} (hG : GrOK ns nl G) (_hL : Lev nl G lv) (_hk : k < nl) (he : e ≤ 99) (b : Bd (dQ G nl 3 (G k 3)).1 (298 * (dQ G nl 3 (G k 3)).2) q) :
    ∃ M B1 B2, Bp M B1 q.num q.den ∧ Bp M B2 (e : Int) 1 ∧ 0 < M ∧ M < 9223372036854775808 ∧ B1 + B2 < 9223372036854775808 := by
  obtain ⟨p1, p2, p3, p4⟩ := dQ_pos hG 3 (G k 3)
  rw [bn_3] at p3 p4
  have m1 : e * (dQ G nl 3 (G k 3)).1 ≤ 99 * 2799360000000 := Nat.mul_le_mul he p3
  refine ⟨_, _, e * (dQ G nl 3 (G k 3)).1, bd_bq p1 b, ⟨by decide, (dQ G nl 3 (G k 3)).1, (Nat.one_mul _).symm, ?_⟩, p1, by omega, by omega⟩
  rw [Int.natAbs_natCast]
  exact Nat.le_refl _
theorem cry_abs {k : Nat} (Q : Nat → Rat) (hk : kOK G k) : cry G k ((ovz G k).natAbs : Nat) Q = if G k 0 = 112 then Q (G k 1) * (G k 4 : Rat) / ((G k 4 + G k 5 : Nat) : Rat) + Q (G k 2) * (G k 5 : Rat) / ((G k 4 + G k 5 : Nat) : Rat) else if G k 0 = 103 ∨ G k 0 = 105 then Q (G k 1) * (G k 4 : Rat) / (G k 5 : Rat) else if G k 0 = 118 then Q (G k 1) * ((1 : Nat) : Rat) / (G k 4 : Rat) else Q (G k 1) := by
  have e1 : ((1 : Nat) : Rat) = 1 := rfl
  have d1 : ∀ q : Rat, q * ((((1 : Nat) : Int)) : Rat) / ((1 : Nat) : Rat) = q := fun q => by
    have e2 : ((((1 : Nat) : Int)) : Rat) = 1 := rfl
    rw [e2, e1, Rat.mul_one]
    grind
  rcases hole_cov hk with w | w | w | w | w
  · have o : (ovz G k).natAbs = G k 4 := by
      unfold ovz
      rcases w with w | w
      · rw [if_pos w, Int.natAbs_neg, Int.natAbs_natCast]
      · rw [if_neg (show G k 0 ≠ 103 by omega), if_pos (Or.inl w), Int.natAbs_natCast]
    have u : unz G k = G k 5 := if_pos w
    unfold cry
    rw [o, u, if_neg (show G k 0 ≠ 112 by omega), if_neg (show G k 0 ≠ 112 by omega), if_pos w, Rat.add_zero]
    rfl
  · have o : (ovz G k).natAbs = 1 := by
      unfold ovz
      rw [if_neg (show G k 0 ≠ 103 by omega), if_neg (show ¬ (G k 0 = 105 ∨ G k 0 = 112) by omega)]
      rfl
    have u : unz G k = 1 := by
      unfold unz
      rw [if_neg (show ¬ (G k 0 = 103 ∨ G k 0 = 105) by omega), if_neg (show G k 0 ≠ 112 by omega), if_neg (show G k 0 ≠ 118 by omega)]
    unfold cry
    rw [o, u, if_neg (show G k 0 ≠ 112 by omega), if_neg (show G k 0 ≠ 112 by omega), if_neg (show ¬ (G k 0 = 103 ∨ G k 0 = 105) by omega), if_neg (show G k 0 ≠ 118 by omega), Rat.add_zero]
    exact d1 _
  · have o : (ovz G k).natAbs = 1 := by
      unfold ovz
      rw [if_neg (show G k 0 ≠ 103 by omega), if_neg (show ¬ (G k 0 = 105 ∨ G k 0 = 112) by omega)]
      rfl
    have u : unz G k = G k 4 := by
      unfold unz
      rw [if_neg (show ¬ (G k 0 = 103 ∨ G k 0 = 105) by omega), if_neg (show G k 0 ≠ 112 by omega), if_pos w]
    unfold cry
    rw [o, u, if_neg (show G k 0 ≠ 112 by omega), if_neg (show G k 0 ≠ 112 by omega), if_neg (show ¬ (G k 0 = 103 ∨ G k 0 = 105) by omega), if_pos w, Rat.add_zero]
    rfl
  · have o : (ovz G k).natAbs = 1 := by
      unfold ovz
      rw [if_neg (show G k 0 ≠ 103 by omega), if_neg (show ¬ (G k 0 = 105 ∨ G k 0 = 112) by omega)]
      rfl
    have u : unz G k = 1 := by
      unfold unz
      rw [if_neg (show ¬ (G k 0 = 103 ∨ G k 0 = 105) by omega), if_neg (show G k 0 ≠ 112 by omega), if_neg (show G k 0 ≠ 118 by omega)]
    unfold cry
    rw [o, u, if_neg (show G k 0 ≠ 112 by omega), if_neg (show G k 0 ≠ 112 by omega), if_neg (show ¬ (G k 0 = 103 ∨ G k 0 = 105) by omega), if_neg (show G k 0 ≠ 118 by omega), Rat.add_zero]
    exact d1 _
  · have o : (ovz G k).natAbs = G k 4 := by
      unfold ovz
      rw [if_neg (show G k 0 ≠ 103 by omega), if_pos (Or.inr w), Int.natAbs_natCast]
    have u : unz G k = G k 4 + G k 5 := by
      unfold unz
      rw [if_neg (show ¬ (G k 0 = 103 ∨ G k 0 = 105) by omega), if_pos w]
    unfold cry
    rw [o, u, if_pos w, if_pos w]
    rfl
theorem p_slackAtM {ns : Nat} {sl : Nat → Nat} {Q : Nat → Rat} (hG : GrOK ns nl G) {lv : Nat → Nat} (hL : Lev nl G lv) (hM : LkM G nl D) (hdr : DrA G nl ns 79 D) (hsl : ∀ k, k < nl → D.AI 90 k = nI (sl k) ∧ sl k ≤ 99) (hQ : Slk G nl sl Q) : ∀ (n s : Nat) (S : Hp) (D0 : Dt) (Φ : Hp → Prop), Rep A E ls nl nc nd S D0 → SamT D D0 → s < ns → lv s ≤ n → (∀ S' D', Rep A E ls nl nc nd S' D' → SamT D D' → TopQ D' (Q s) → Φ S') → wX8_slackAt (n + 1) S (A 70) (nI s) Φ := by
  have hG' := hG
  obtain ⟨hns, hnl, hg, -⟩ := hG'
  have qb := slk_bd hG hL (fun k hk => (hsl k hk).2) hQ
  intro n
  induction n with
  | zero =>
    intro s S D0 Φ h t0 hs hlv hk
    have hn := lev0 hL.1 (s := s) (by omega)
    have a79 := m_arr h 519 79 21 14
    have v79 : S.AI (A 79) (nI s).toNatClampNeg = -1 := rd_I h (al_s (by decide)) (by omega) (by rw [t0.2.1, hdr s hs, hn])
    show wX8_slackAt_b0 _ _ _ _ _
    unfold wX8_slackAt_b0
    refine ⟨m_is h, A 79, a79.1, a79.2.1, by rw [a79.2.2]; exact in_nI (by omega) (by decide), ?_⟩
    rw [v79]
    refine fi_p rfl (t_result (N := 0) (Dn := 1) h rg_0 rg_1 (by decide) (fun S' D' h' s' t' => hk S' D' h' (t0.tr s') ?_))
    rw [hQ s, hn]
    exact t'
  | succ n ih =>
    intro s S D0 Φ h t0 hs hlv hk
    have a79 := m_arr h 519 79 21 14
    show wX8_slackAt_b0 _ _ _ _ _
    unfold wX8_slackAt_b0
    refine ⟨m_is h, A 79, a79.1, a79.2.1, by rw [a79.2.2]; exact in_nI (by omega) (by decide), ?_⟩
    have hd := hdr s hs
    cases hq : drv G nl s with
    | none =>
      rw [hq] at hd
      have v79 : S.AI (A 79) (nI s).toNatClampNeg = -1 := rd_I h (al_s (by decide)) (by omega) (by rw [t0.2.1]; exact hd)
      rw [v79]
      refine fi_p rfl (t_result (N := 0) (Dn := 1) h rg_0 rg_1 (by decide) (fun S' D' h' s' t' => hk S' D' h' (t0.tr s') ?_))
      rw [hQ s, hq]
      exact t'
    | some k =>
      rw [hq] at hd
      obtain ⟨hkl, rfl⟩ := drv_some hq
      obtain ⟨hkk, hf, hs2, ht⟩ := hg k hkl
      have v79 : S.AI (A 79) (nI (G k 3)).toNatClampNeg = nI k := rd_I h (al_s (by decide)) (by omega) (by rw [t0.2.1]; exact hd)
      rw [v79]
      have k16 : ∀ n, n = 16 → vp_in (nI k) n := fun n e => by
        rw [e]
        exact in_nI (by omega) (by decide)
      have hQs : Q (G k 3) = (sl k : Rat) + cry G k ((ovz G k).natAbs : Nat) Q := by rw [hQ (G k 3), hq]
      have hM0 : LkM G nl D0 := lkM_cg hM (fun r _ _ => by rw [t0.2.1])
      have a85 := m_arr h 525 85 21 16
      have a86 := m_arr h 526 86 21 16
      have a82 := m_arr h 522 82 21 16
      obtain ⟨w4, w5, w45⟩ := lk64 h hM0 hkl (by omega) hkk
      obtain ⟨-, v82, -, -, -, -⟩ := lkM_read h hM0 hkl (by omega)
      obtain ⟨lt, h4, h5⟩ := kOK_lt hkk
      have l1 := hL.1 k (G k 1) hkl (Or.inl rfl)
      refine fi_n (nI_nm (by omega)) ⟨A 85, a85.1, a85.2.1, k16 _ a85.2.2, A 86, a86.1, a86.2.1, k16 _ a86.2.2, A 82, a82.1, a82.2.1, k16 _ a82.2.2, ?_⟩
      rw [v82, w4, w5]
      refine ih (G k 1) S D0 _ h t0 hf (by omega) (fun S24 D24 r24 t24 q24 => ⟨m_is r24, ?_⟩)
      have hM24 : LkM G nl D24 := lkM_cg hM (fun r _ _ => by rw [t24.2.1])
      have a81 := m_arr r24 521 81 20 16
      obtain ⟨v81, -, v83, -, -, -⟩ := lkM_read r24 hM24 hkl (by omega)
      obtain ⟨m1, m2, m3⟩ := qb_ok (Q := Q) hG (s := G k 1)
      have ca := cry_abs Q hkk
      have cb := cry_bd (c := 298) (V := Q) hG hL hkl (ov := ((ovz G k).natAbs : Nat)) (by rw [Int.natAbs_natCast]; exact Nat.le_refl _) (qb _) (fun _ => qb _)
      have fin : ∀ S2 D2, Rep A E ls nl nc nd S2 D2 → SamT D D2 → TopQ D2 (cry G k ((ovz G k).natAbs : Nat) Q) → wX8_slackAt_b207 (wX8_slackAt (n + 1)) (A 70) (nI (G k 3)) Φ S2 (nI k) := fun S2 D2 r2 t2 q2 => by
        unfold wX8_slackAt_b207
        have a90 := m_arr r2 530 90 21 16
        have v90 : S2.AI (A 90) (nI k).toNatClampNeg = nI (sl k) := rd_I r2 (al_s (by decide)) (by omega) (by rw [t2.2.1]; exact (hsl k hkl).1)
        refine ⟨m_is r2, A 90, a90.1, a90.2.1, k16 _ a90.2.2, ?_⟩
        obtain ⟨o1, o2⟩ := m_top r2 q2
        have s99 := (hsl k hkl).2
        rw [v90, o1, o2, nI64 (by omega)]
        obtain ⟨M, X1, X2, y1, y2, y3, y4, y5⟩ := slk_sum hG hL hkl s99 cb
        refine t_sum (d := 1) r2 y1 y2 y3 y4 y5 (fun S3 D3 r3 t3 q3 => hk S3 D3 r3 (t2.tr t3) ?_)
        have e1 : Rat.divInt ((sl k : Nat) : Int) ((1 : Nat) : Int) = (sl k : Rat) := q_self ((sl k : Nat) : Rat)
        rw [q_self, e1] at q3
        rw [hQs, Rat.add_comm]
        exact q3
      refine ⟨A 81, a81.1, a81.2.1, k16 _ a81.2.2, ?_⟩
      rw [v81]
      by_cases c1 : G k 0 = 103
      · have b0 : 0 < G k 5 := by
          unfold kOK at hkk
          omega
        refine if_p (by rw [c1]; rfl) (t_topmul r24 q24 (qb _) m1 m2 m3 (by omega) b0 (by omega) rfl rfl (fun S2 D2 r2 t2 q2 => fin S2 D2 r2 (t24.tr t2) ?_))
        rw [ca, if_neg (by omega), if_pos (Or.inl c1)]
        exact q2
      refine if_n (fun q => c1 ((nI_lit lt (by decide)).mp q)) ?_
      by_cases c2 : G k 0 = 105
      · have b0 : 0 < G k 5 := by
          unfold kOK at hkk
          omega
        refine if_p (by rw [c2]; rfl) (t_topmul r24 q24 (qb _) m1 m2 m3 (by omega) b0 (by omega) rfl rfl (fun S2 D2 r2 t2 q2 => fin S2 D2 r2 (t24.tr t2) ?_))
        rw [ca, if_neg (by omega), if_pos (Or.inr c2)]
        exact q2
      refine if_n (fun q => c2 ((nI_lit lt (by decide)).mp q)) ?_
      by_cases hp : G k 0 = 112
      · have b0 : 0 < G k 4 + G k 5 := by
          unfold kOK at hkk
          omega
        have hs2' := hs2 hp
        have l2 := hL.1 k (G k 2) hkl (Or.inr ⟨hp, rfl⟩)
        have e45 : i6 (G k 4 : Int) + i6 (G k 5 : Int) = i6 ((G k 4 + G k 5 : Nat) : Int) := by
          rw [i6_add]
          rfl
        rw [e45]
        refine if_p (by rw [hp]; rfl) (t_topmul r24 q24 (qb _) m1 m2 m3 (by omega) b0 (by omega) rfl rfl (fun S38 D38 r38 t38 q38 => ⟨m_is r38, ?_⟩))
        have a83 := m_arr r38 523 83 21 16
        have t38' := t24.tr t38
        have hM38 : LkM G nl D38 := lkM_cg hM (fun r _ _ => by rw [t38'.2.1])
        obtain ⟨-, -, v83', -, -, -⟩ := lkM_read r38 hM38 hkl (by omega)
        refine ⟨A 83, a83.1, a83.2.1, k16 _ a83.2.2, ?_⟩
        have hsec : sec G k = nI (G k 2) := if_pos hp
        rw [v83', hsec]
        obtain ⟨o1, o2⟩ := m_top r38 q38
        rw [o1, o2]
        obtain ⟨n1, n2, n3⟩ := qb_ok (Q := Q) hG (s := G k 2)
        refine ih (G k 2) S38 D38 _ r38 t38' hs2' (by omega) (fun S43 D43 r43 t43 q43 => ⟨m_is r43, ?_⟩)
        refine t_topmul r43 q43 (qb _) n1 n2 n3 (by omega) b0 (by omega) rfl rfl (fun S45 D45 r45 t45 q45 => ⟨m_is r45, ?_⟩)
        obtain ⟨p1, p2⟩ := m_top r45 q45
        rw [p1, p2]
        obtain ⟨M, X1, X2, y1, y2, y3, y4, y5⟩ := pl_bd hG hL hkl hp (qb _) (qb _)
        refine t_sum r45 y1 y2 y3 y4 y5 (fun S47 D47 r47 t47 q47 => fin S47 D47 r47 ((t43.tr t45).tr t47) ?_)
        rw [q_self, q_self] at q47
        rw [ca, if_pos hp]
        exact q47
      refine if_n (fun q => hp ((nI_lit lt (by decide)).mp q)) ?_
      by_cases c3 : G k 0 = 118
      · have b0 : 0 < G k 4 := by
          unfold kOK at hkk
          omega
        refine if_p (by rw [c3]; rfl) (t_topmul (a := 1) r24 q24 (qb _) m1 m2 m3 (by decide) b0 (by omega) rfl rfl (fun S2 D2 r2 t2 q2 => fin S2 D2 r2 (t24.tr t2) ?_))
        rw [ca, if_neg hp, if_neg (by omega), if_pos c3]
        exact q2
      · refine if_n (fun q => c3 ((nI_lit lt (by decide)).mp q)) (fin S24 D24 r24 t24 ?_)
        rw [ca, if_neg hp, if_neg (by omega), if_neg c3]
        exact q24
theorem p_slackOfM {Φ : Hp → Int64 → Prop} {ns : Nat} {x : Int32} {ov : Bool} {sl : Nat → Nat} {lv : Nat → Nat} (h : Rep A E ls nl nc nd S D) (hG : GrOK ns nl G) (hL : Lev nl G lv) (hns : D.FI 543 70 = nI ns) (hM : LkM G nl D) (hdr : DrA G nl ns 79 D) (hsl : ∀ k, k < nl → D.AI 90 k = nI (sl k) ∧ sl k ≤ 99)
    (k1 : ¬ inR x ns → ∀ S' D', Rep A E ls nl nc nd S' D' → Thr 1 D D' → Φ S' 0)
    (k3 : ∀ s, s < ns → x = nI s → ∃ Q, Slk G nl sl Q ∧ ∀ S' D', Rep A E ls nl nc nd S' D' → Thr 0 D D' → Φ S' (pick ov (Q s))) : wX8_slackOf S (A 70) x (bI ov) Φ := by
  have h14 := hG.1
  unfold wX8_slackOf wX8_slackOf_b0
  refine ⟨m_is h, g_S h hns h14 (fun s hs e S1 D1 r1 t1 => if_p rfl ⟨m_is r1, ?_⟩) (fun q S1 D1 r1 t1 => if_n (by decide) (k1 q S1 D1 r1 t1))⟩
  obtain ⟨Q, hQ, z⟩ := k3 s hs e
  rw [e]
  refine p_slackAtM hG hL (lkM_cg hM (fun r _ _ => by rw [t1.AI])) (drA_cg hdr (by rw [t1.AI])) (fun k hk => by rw [t1.AI]; exact hsl k hk) hQ 19 s S1 D1 _ r1 SamT.rf hs (by have := hL.2 s; omega) (fun S' D' r' t' q' => ?_)
  obtain ⟨o1, o2⟩ := m_top r' q'
  rw [o1, o2]
  have z' := z S' D' r' (t1.T t')
  cases ov with
  | true => exact if_n (by decide) ⟨m_is r', z'⟩
  | false => exact if_p rfl ⟨m_is r', z'⟩
end MV9
