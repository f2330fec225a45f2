/-! THE REFERENCE: ratios -/
section MT9
variable {A E : Nat → Nat} {ls : Nat → List Nat} {nl nc nd : Nat} {S : Hp} {D : Dt} {G : Nat → Nat → Nat}
/-- the top times a by b -/
theorem t_topmul {Φ : Hp → Prop} {M B a b : Nat} {q : Rat} (h : Rep A E ls nl nc nd S D) (hq : TopQ D q) (bd : Bd M B q) (hM0 : 0 < M) (hM : M ≤ 67184640000000) (hB : B ≤ 100000000000000000) (ha : a ≤ 60) (hb0 : 0 < b) (hb : b ≤ 60) {z1 z2 : Int64} (e1 : z1 = i6 (a : Int)) (e2 : z2 = i6 (b : Int))
    (k : ∀ S' D', Rep A E ls nl nc nd S' D' → SamT D D' → TopQ D' (q * (a : Rat) / (b : Rat)) → Φ S') : wX8_product S (A 70) (S.FJ 547 (A 70)) (S.FJ 548 (A 70)) z1 z2 Φ := by
  obtain ⟨t1, t2⟩ := m_top h hq
  have ra := bq_rg (bd_bq hM0 bd) hM0 hM hB a ha
  have rb := bq_rg (bd_bq hM0 bd) hM0 hM hB b hb
  rw [t1, t2, e1, e2]
  refine t_product h q.den_pos hb0 ra.1 (by unfold Rg; omega) ra.2.2.2 rb.2.2.1 (fun S' D' h' s' t' => ?_)
  rw [q_prod] at t'
  exact k S' D' h' s' t'
theorem t_topmuln {Φ : Hp → Prop} {M B a b : Nat} {q : Rat} (h : Rep A E ls nl nc nd S D) (hq : TopQ D q) (bd : Bd M B q) (hM0 : 0 < M) (hM : M ≤ 67184640000000) (hB : B ≤ 100000000000000000) (ha : a ≤ 60) (hb0 : 0 < b) (hb : b ≤ 60) {z1 z2 : Int64} (e1 : z1 = i6 (a : Int)) (e2 : z2 = i6 (b : Int))
    (k : ∀ S' D', Rep A E ls nl nc nd S' D' → SamT D D' → TopQ D' (-(q * (a : Rat) / (b : Rat))) → Φ S') : wX8_product S (A 70) (-(S.FJ 547 (A 70))) (S.FJ 548 (A 70)) z1 z2 Φ := by
  obtain ⟨t1, t2⟩ := m_top h hq
  have ra := bq_rg (bd_bq hM0 bd) hM0 hM hB a ha
  have rb := bq_rg (bd_bq hM0 bd) hM0 hM hB b hb
  rw [t1, t2, e1, e2, i6_neg]
  refine t_product h q.den_pos hb0 (rg_abs (by omega) ra.1) (by unfold Rg; omega) (rg_abs (by rw [Int.natAbs_mul, Int.natAbs_mul, Int.natAbs_neg]; exact Nat.le_refl _) ra.2.2.2) rb.2.2.1 (fun S' D' h' s' t' => ?_)
  rw [q_prodn] at t'
  exact k S' D' h' s' t'
theorem lk64 (h : Rep A E ls nl nc nd S D) (hM : LkM G nl D) {k : Nat} (hk : k < nl) (hk16 : k < 16) (hkk : kOK G k) : (S.AI (A 85) (nI k).toNatClampNeg).toInt64 = i6 (G k 4 : Int) ∧ (S.AI (A 86) (nI k).toNatClampNeg).toInt64 = i6 (G k 5 : Int) ∧ (S.AI (A 85) (nI k).toNatClampNeg).toInt64 + (S.AI (A 86) (nI k).toNatClampNeg).toInt64 = i6 ((G k 4 + G k 5 : Nat) : Int) := by
  obtain ⟨-, -, -, -, v85, v86⟩ := lkM_read h hM hk hk16
  obtain ⟨-, h4, h5⟩ := kOK_lt hkk
  rw [v85, v86, nI64 (by omega), nI64 (by omega)]
  refine ⟨rfl, rfl, ?_⟩
  rw [i6_add]
  rfl
/-- planets: the sum of two shares of sources -/
theorem pl_bd {ns k : Nat} {lv : Nat → Nat} {Q : Nat → Rat} (hG : GrOK ns nl G) (hL : Lev nl G lv) (hk : k < nl) (hp : G k 0 = 112) (b1 : Bd (dQ G nl 3 (G k 1)).1 (298 * (dQ G nl 3 (G k 1)).2) (Q (G k 1))) (b2 : Bd (dQ G nl 3 (G k 2)).1 (298 * (dQ G nl 3 (G k 2)).2) (Q (G k 2))) :
    ∃ M B1 B2, Bq M B1 (Q (G k 1) * (G k 4 : Rat) / ((G k 4 + G k 5 : Nat) : Rat)) ∧ Bq M B2 (Q (G k 2) * (G k 5 : Rat) / ((G k 4 + G k 5 : Nat) : Rat)) ∧ 0 < M ∧ M < 9223372036854775808 ∧ B1 + B2 < 9223372036854775808 := by
  obtain ⟨s1, s2, s3, s4, s5⟩ := src_le hG hL hk
  obtain ⟨s6, s7⟩ := s5 hp
  have hkk := (hG.2.2.1 k hk).1
  obtain ⟨-, h4, h5⟩ := kOK_lt hkk
  have b0 : 0 < G k 4 + G k 5 := by
    unfold kOK at hkk
    omega
  have t1 := bd_div b0 (bd_mul (G k 4) (bd_scale (dQ G nl 3 (G k 2)).1 b1))
  have t2 := bd_div b0 (bd_mul (G k 5) (bd_scale (dQ G nl 3 (G k 1)).1 b2))
  rw [Nat.mul_comm (dQ G nl 3 (G k 2)).1] at t2
  have l1 : (dQ G nl 3 (G k 1)).1 * (dQ G nl 3 (G k 2)).1 ≤ 216000 * 216000 := Nat.mul_le_mul s2 s6
  have l2 : (dQ G nl 3 (G k 1)).2 * (dQ G nl 3 (G k 2)).1 ≤ 216000 * 216000 := Nat.mul_le_mul s3 s6
  have l3 : (dQ G nl 3 (G k 2)).2 * (dQ G nl 3 (G k 1)).1 ≤ 216000 * 216000 := Nat.mul_le_mul s7 s2
  have l4 : 298 * (dQ G nl 3 (G k 1)).2 * (dQ G nl 3 (G k 2)).1 * G k 4 ≤ 298 * (216000 * 216000) * 30 := by
    rw [Nat.mul_assoc 298]
    exact Nat.mul_le_mul (Nat.mul_le_mul_left _ l2) h4
  have l5 : 298 * (dQ G nl 3 (G k 2)).2 * (dQ G nl 3 (G k 1)).1 * G k 5 ≤ 298 * (216000 * 216000) * 30 := by
    rw [Nat.mul_assoc 298]
    exact Nat.mul_le_mul (Nat.mul_le_mul_left _ l3) h5
  have l6 : (dQ G nl 3 (G k 1)).1 * (dQ G nl 3 (G k 2)).1 * (G k 4 + G k 5) ≤ 216000 * 216000 * 60 := Nat.mul_le_mul l1 (by omega)
  have m0 : 0 < (dQ G nl 3 (G k 1)).1 * (dQ G nl 3 (G k 2)).1 * (G k 4 + G k 5) := Nat.mul_pos (Nat.mul_pos s1 s4) b0
  exact ⟨_, _, _, bd_bq m0 t1, bd_bq m0 t2, m0, by omega, by omega⟩
theorem qb_ok {ns : Nat} {Q : Nat → Rat} (hG : GrOK ns nl G) {s : Nat} : 0 < (dQ G nl 3 s).1 ∧ (dQ G nl 3 s).1 ≤ 67184640000000 ∧ 298 * (dQ G nl 3 s).2 ≤ 100000000000000000 := by
  obtain ⟨p1, p2, p3, p4⟩ := dQ_pos hG 3 s
  rw [bn_3] at p3 p4
  omega
theorem p_turnsM {ns inp : Nat} {eng brk B : Nat → Bool} {Q : Nat → Rat} (hG : GrOK ns nl G) {lv : Nat → Nat} (hL : Lev nl G lv) (hi : inp < ns) (hd0 : drv G nl inp = none) (hM : LkM G nl D) (hdr : DrA G nl ns 79 D) (hb : ∀ k, k < nl → D.AI 88 k = bI (brk k)) (he : ∀ k, k < nl → D.AI 87 k = bI (!eng k)) (hB : UnV G nl inp brk B) (hQ : Shr G nl inp (fun k => eng k && !brk k) Q) : ∀ (n s : Nat) (S : Hp) (D0 : Dt) (Φ : Hp → Prop), Rep A E ls nl nc nd S D0 → SamT D D0 → s < ns → lv s ≤ n → B s = false → (∀ S' D', Rep A E ls nl nc nd S' D' → SamT D D' → TopQ D' (Q s) → Φ S') → wX8_turns (n + 1) S (A 70) (nI s) (nI inp) Φ := by
  have hG' := hG
  obtain ⟨hns, hnl, hg, -⟩ := hG'
  have hb20 : ∀ s, lv s ≤ 20 := fun s => by have := hL.2 s; omega
  have qb := shr_bd hG hL hQ
  have one : ∀ (rec : Hp → Nat → Int32 → Int32 → (Hp → Prop) → Prop) (S : Hp) (D0 : Dt) (Φ : Hp → Prop) (s : Nat), Rep A E ls nl nc nd S D0 → SamT D D0 → s < ns → (Q s = if s = inp then 1 else 0) → (∀ S' D', Rep A E ls nl nc nd S' D' → SamT D D' → TopQ D' (Q s) → Φ S') → wX8_turns_b35 rec (A 70) (nI s) (nI inp) Φ S := by
    intro rec S D0 Φ s h t0 hs hq k
    unfold wX8_turns_b35 wX8_turns_b46
    by_cases c : s = inp
    · rw [if_pos c] at hq
      refine fi_p (by rw [c]) ⟨m_is h, t_result (N := 1) (Dn := 1) h rg_1 rg_1 (by decide) (fun S' D' h' s' t' => k S' D' h' (t0.tr s') ?_)⟩
      rw [hq]
      exact t'
    · rw [if_neg c] at hq
      refine fi_n (fun q => c ((nI_iff (by omega) (by omega)).mp q)) ⟨m_is h, t_result (N := 0) (Dn := 1) h rg_0 rg_1 (by decide) (fun S' D' h' s' t' => k S' D' h' (t0.tr s') ?_)⟩
      rw [hq]
      exact t'
  have base : ∀ s, drv G nl s = none → Q s = if s = inp then 1 else 0 := fun s hs => by rw [hQ s, hs]
  intro n
  induction n with
  | zero =>
    intro s S D0 Φ h t0 hs hlv hBs hk
    have hn := lev0 hL.1 (s := s) (by omega)
    have a79 := m_arr h 519 79 21 14
    have v79 : S.AI (A 79) (nI s).toNatClampNeg = -1 := rd_I h (al_s (by decide)) (by omega) (by rw [t0.2.1, hdr s hs, hn])
    show wX8_turns_b0 _ _ _ _ _ _
    unfold wX8_turns_b0
    refine ⟨m_is h, A 79, a79.1, a79.2.1, by rw [a79.2.2]; exact in_nI (by omega) (by decide), ?_⟩
    have o := one (wX8_turns 0) S D0 Φ s h t0 hs (base s hn) hk
    by_cases c : s = inp
    · exact if_p (by rw [c]) o
    · refine if_n (fun q => c ((nI_iff (by omega) (by omega)).mp q)) ?_
      rw [v79]
      exact if_p rfl o
  | succ n ih =>
    intro s S D0 Φ h t0 hs hlv hBs hk
    have a79 := m_arr h 519 79 21 14
    show wX8_turns_b0 _ _ _ _ _ _
    unfold wX8_turns_b0
    refine ⟨m_is h, A 79, a79.1, a79.2.1, by rw [a79.2.2]; exact in_nI (by omega) (by decide), ?_⟩
    by_cases c : s = inp
    · exact if_p (by rw [c]) (one _ S D0 Φ s h t0 hs (by rw [c]; exact base inp hd0) hk)
    · refine if_n (fun q => c ((nI_iff (by omega) (by omega)).mp q)) ?_
      have hd := hdr s hs
      cases hq : drv G nl s with
      | none =>
        rw [hq] at hd
        have v79 : S.AI (A 79) (nI s).toNatClampNeg = -1 := rd_I h (al_s (by decide)) (by omega) (by rw [t0.2.1]; exact hd)
        rw [v79]
        exact if_p rfl (one _ S D0 Φ s h t0 hs (base s hq) hk)
      | some k =>
        rw [hq] at hd
        obtain ⟨hkl, e⟩ := drv_some hq
        obtain ⟨hkk, hf, hs2, ht⟩ := hg k hkl
        have v79 : S.AI (A 79) (nI s).toNatClampNeg = nI k := rd_I h (al_s (by decide)) (by omega) (by rw [t0.2.1]; exact hd)
        rw [v79]
        have k16 : ∀ n, n = 16 → vp_in (nI k) n := fun n e => by
          rw [e]
          exact in_nI (by omega) (by decide)
        have hQs : Q s = if (eng k && !brk k) = true then cry G k (ovz G k) Q else 0 := by rw [hQ s, hq]
        have a88 := m_arr h 528 88 23 16
        have a87 := m_arr h 527 87 23 16
        have v88 : S.AI (A 88) (nI k).toNatClampNeg = bI (brk k) := rd_I h (al_s (by decide)) (by omega) (by rw [t0.2.1]; exact hb k hkl)
        have v87 : S.AI (A 87) (nI k).toNatClampNeg = bI (!eng k) := rd_I h (al_s (by decide)) (by omega) (by rw [t0.2.1]; exact he k hkl)
        refine if_n (nI_nm (by omega)) ⟨A 88, a88.1, a88.2.1, k16 _ a88.2.2, ?_⟩
        rw [v88]
        cases ek : brk k with
        | true =>
          rw [ek, Bool.not_true, Bool.and_false, if_neg (by decide)] at hQs
          exact fi_n (by decide) (one _ S D0 Φ s h t0 hs (by rw [hQs, if_neg c]) hk)
        | false =>
          refine fi_p rfl ⟨A 87, a87.1, a87.2.1, k16 _ a87.2.2, ?_⟩
          rw [v87]
          rw [ek, Bool.not_false, Bool.and_true] at hQs
          cases ee : eng k with
          | false =>
            rw [ee, if_neg (by decide)] at hQs
            exact if_n (by decide) (one _ S D0 Φ s h t0 hs (by rw [hQs, if_neg c]) hk)
          | true =>
            rw [ee, if_pos rfl] at hQs
            have hM0 : LkM G nl D0 := lkM_cg hM (fun r _ _ => by rw [t0.2.1])
            have a85 := m_arr h 525 85 21 16
            have a86 := m_arr h 526 86 21 16
            have a82 := m_arr h 522 82 21 16
            obtain ⟨w4, w5, w45⟩ := lk64 h hM0 hkl (by omega) hkk
            obtain ⟨-, v82, -, -, -, -⟩ := lkM_read h hM0 hkl (by omega)
            obtain ⟨-, h4, h5⟩ := kOK_lt hkk
            have hB' := hB s
            rw [hq, hBs] at hB'
            dsimp only at hB'
            have hB2 := hB'.symm
            simp only [Bool.or_eq_false_iff] at hB2
            obtain ⟨⟨B1, B2⟩, B3⟩ := hB2
            have l1 := hL.1 k (G k 1) hkl (Or.inl rfl)
            rw [e] at l1
            refine if_p rfl ⟨A 85, a85.1, a85.2.1, k16 _ a85.2.2, A 86, a86.1, a86.2.1, k16 _ a86.2.2, A 82, a82.1, a82.2.1, k16 _ a82.2.2, ?_⟩
            rw [v82, w4, w5]
            refine ih (G k 1) S D0 _ h t0 hf (by omega) B1 (fun S24 D24 r24 t24 q24 => ⟨m_is r24, ?_⟩)
            have hM24 : LkM G nl D24 := lkM_cg hM (fun r _ _ => by rw [t24.2.1])
            have a81 := m_arr r24 521 81 20 16
            obtain ⟨v81, -, v83, -, -, -⟩ := lkM_read r24 hM24 hkl (by omega)
            obtain ⟨m1, m2, m3⟩ := qb_ok (Q := Q) hG (s := G k 1)
            refine ⟨A 81, a81.1, a81.2.1, k16 _ a81.2.2, ?_⟩
            rw [v81]
            have lt := (kOK_lt hkk).1
            by_cases hp : G k 0 = 112
            · have b0 : 0 < G k 4 + G k 5 := by
                unfold kOK at hkk
                omega
              have hs2' := hs2 hp
              have l2 := hL.1 k (G k 2) hkl (Or.inr ⟨hp, rfl⟩)
              rw [e] at l2
              rw [decide_eq_true hp, Bool.true_and] at B2
              have e45 : i6 (G k 4 : Int) + i6 (G k 5 : Int) = i6 ((G k 4 + G k 5 : Nat) : Int) := by
                rw [i6_add]
                rfl
              rw [e45]
              refine fi_p (by rw [hp]; rfl) (t_topmul r24 q24 (qb _) m1 m2 m3 (by omega) b0 (by omega) rfl rfl (fun S38 D38 r38 t38 q38 => ⟨m_is r38, ?_⟩))
              have a83 := m_arr r38 523 83 21 16
              have t38' := t24.tr t38
              have hM38 : LkM G nl D38 := lkM_cg hM (fun r _ _ => by rw [t38'.2.1])
              obtain ⟨-, -, v83', -, -, -⟩ := lkM_read r38 hM38 hkl (by omega)
              refine ⟨A 83, a83.1, a83.2.1, k16 _ a83.2.2, ?_⟩
              have hsec : sec G k = nI (G k 2) := if_pos hp
              rw [v83', hsec]
              obtain ⟨o1, o2⟩ := m_top r38 q38
              rw [o1, o2]
              obtain ⟨n1, n2, n3⟩ := qb_ok (Q := Q) hG (s := G k 2)
              refine ih (G k 2) S38 D38 _ r38 t38' hs2' (by omega) B2 (fun S43 D43 r43 t43 q43 => ⟨m_is r43, ?_⟩)
              refine t_topmul r43 q43 (qb _) n1 n2 n3 (by omega) b0 (by omega) rfl rfl (fun S45 D45 r45 t45 q45 => ⟨m_is r45, ?_⟩)
              obtain ⟨p1, p2⟩ := m_top r45 q45
              rw [p1, p2]
              obtain ⟨M, X1, X2, y1, y2, y3, y4, y5⟩ := pl_bd hG hL hkl hp (qb _) (qb _)
              refine t_sum r45 y1 y2 y3 y4 y5 (fun S47 D47 r47 t47 q47 => hk S47 D47 r47 ((t43.tr t45).tr t47) ?_)
              rw [q_self, q_self] at q47
              rw [hQs, cry_ctr (P := Q) (m := 0) hkk (Or.inr (Or.inr (Or.inr hp))), ctr_p hp]
              exact q47
            · refine fi_n (fun q => hp ((nI_lit lt (by decide)).mp q)) ⟨A 81, a81.1, a81.2.1, k16 _ a81.2.2, ?_⟩
              rw [v81]
              by_cases c1 : G k 0 = 103
              · have b0 : 0 < G k 5 := by
                  unfold kOK at hkk
                  omega
                refine if_p (by rw [c1]; rfl) ?_
                unfold wX8_turns_b193 wX8_turns_b217
                refine ⟨m_is r24, A 81, a81.1, a81.2.1, k16 _ a81.2.2, ?_⟩
                rw [v81]
                refine fi_p (by rw [c1]; rfl) ⟨m_is r24, m_is r24, t_topmuln r24 q24 (qb _) m1 m2 m3 (by omega) b0 (by omega) rfl rfl (fun S2 D2 r2 t2 q2 => hk S2 D2 r2 (t24.tr t2) ?_)⟩
                rw [hQs, cry_ctr (P := Q) (m := 0) hkk (Or.inl c1), ctr_g c1]
                exact q2
              · refine if_n (fun q => c1 ((nI_lit lt (by decide)).mp q)) ⟨A 81, a81.1, a81.2.1, k16 _ a81.2.2, ?_⟩
                rw [v81]
                by_cases c2 : G k 0 = 105
                · have b0 : 0 < G k 5 := by
                    unfold kOK at hkk
                    omega
                  refine fi_p (by rw [c2]; rfl) ?_
                  unfold wX8_turns_b193 wX8_turns_b217
                  refine ⟨m_is r24, A 81, a81.1, a81.2.1, k16 _ a81.2.2, ?_⟩
                  rw [v81]
                  refine fi_n (fun q => c1 ((nI_lit lt (by decide)).mp q)) ⟨m_is r24, m_is r24, t_topmul r24 q24 (qb _) m1 m2 m3 (by omega) b0 (by omega) rfl rfl (fun S2 D2 r2 t2 q2 => hk S2 D2 r2 (t24.tr t2) ?_)⟩
                  rw [hQs, cry_ctr (P := Q) (m := 0) hkk (Or.inr (Or.inl c2)), ctr_i c2]
                  exact q2
                · refine fi_n (fun q => c2 ((nI_lit lt (by decide)).mp q)) (hk S24 D24 r24 t24 ?_)
                  by_cases c3 : G k 0 = 107
                  · rw [hQs, cry_ctr (P := Q) (m := 0) hkk (Or.inr (Or.inr (Or.inl c3))), ctr_k c3]
                    exact q24
                  · have ej : jrk G k = true := by
                      unfold jrk
                      rcases hole_cov hkk with w | w | w | w | w
                      · exact absurd w (by omega)
                      · exact absurd w c3
                      · rw [decide_eq_true w, Bool.true_or]
                      · rw [decide_eq_true w, Bool.or_true]
                      · exact absurd w hp
                    rw [ej, ek, Bool.not_false, Bool.and_true, Bool.and_true] at B3
                    have z0 := shr_bh hG hL hQ _ s (Nat.le_refl _) B3
                    have B3' := B3
                    rw [← e, bh_link hG hL.1 hb20 hkl] at B3'
                    simp only [Bool.or_eq_false_iff] at B3'
                    have z1 := shr_bh hG hL hQ _ (G k 1) (Nat.le_refl _) B3'.2.1
                    rw [z0]
                    rw [z1] at q24
                    exact q24
end MT9
