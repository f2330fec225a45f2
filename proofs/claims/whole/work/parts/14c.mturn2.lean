/-! THE REFERENCE: a turning, whole -/
section MT8
variable {A E : Nat → Nat} {ls : Nat → List Nat} {nl nc nd : Nat} {S : Hp} {D : Dt} {G : Nat → Nat → Nat}
theorem t_mt4 {Φ : Hp → Int32 → Prop} {ns : Nat} {x y : Int32} {P P' : Nat → Rat} (h : Rep A E ls nl nc nd S D) (hns : D.FI 543 70 = nI ns) (h14 : ns ≤ 14) (hP' : MR D 72 ns P') (hP : MR D 76 ns P) (sP' : ∀ s, Sm (P' s)) (sP : ∀ s, Sm (P s)) (kk : Φ S (nI (cnt ns (fun s => decide (P' s ≠ P s))))) : ∃ n, it3 (wX8_turn_b236 (A 70) x y Φ) n S 0 0 := by
  have vns : S.FI 543 (A 70) = nI ns := by
    rw [rep_FI h 543 (by decide) m_al]
    exact hns
  refine it3_ex (fun j S1 a v => S1 = S ∧ v = nI j ∧ a = nI (cnt j (fun s => decide (P' s ≠ P s)))) ns ?_ ?_ ⟨rfl, rfl, rfl⟩
  · rintro j hj S1 _ _ k9 ⟨rfl, rfl, rfl⟩ hk9
    have e2 := hP' j hj
    have e5 := hP j hj
    have s14 : ∀ n, n = 14 → vp_in (nI j) n := fun n e => by
      rw [e]
      exact in_nI (by omega) (by decide)
    have a72 := m_arr h 512 72 22 14
    have a73 := m_arr h 513 73 22 14
    have a76 := m_arr h 516 76 22 14
    have a77 := m_arr h 517 77 22 14
    have v72 : S1.AJ (A 72) (nI j).toNatClampNeg = i6 (P' j).num := rd_J h (al_s (by decide)) (by omega) e2.1
    have v73 : S1.AJ (A 73) (nI j).toNatClampNeg = i6 (P' j).den := rd_J h (al_s (by decide)) (by omega) e2.2
    have v76 : S1.AJ (A 76) (nI j).toNatClampNeg = i6 (P j).num := rd_J h (al_s (by decide)) (by omega) e5.1
    have v77 : S1.AJ (A 77) (nI j).toNatClampNeg = i6 (P j).den := rd_J h (al_s (by decide)) (by omega) e5.2
    have yes : P' j ≠ P j → wX8_turn_b286 (A 70) x y Φ k9 S1 (nI j) (nI (cnt j (fun s => decide (P' s ≠ P s)))) := fun e => by
      unfold wX8_turn_b286 wX8_turn_b287
      rw [← nI_succ, ← nI_succ]
      refine hk9 _ _ _ ⟨rfl, rfl, ?_⟩
      show _ = nI (cnt j _ + _)
      rw [if_pos (by simp [e])]
    unfold wX8_turn_b236
    rw [vns]
    refine ⟨m_is h, if_n (nI_ge hj (by omega)) ⟨A 72, a72.1, a72.2.1, s14 _ a72.2.2, A 76, a76.1, a76.2.1, s14 _ a76.2.2, ?_⟩⟩
    rw [v72, v76, cmp_eq (sP' j).1 (sP j).1]
    refine ⟨fun c => yes (fun e => c (by rw [e])), fun c => ⟨A 73, a73.1, a73.2.1, s14 _ a73.2.2, A 77, a77.1, a77.2.1, s14 _ a77.2.2, ?_⟩⟩
    rw [v73, v77, cmp_eq (sP' j).2 (sP j).2]
    refine ⟨fun c2 => yes (fun e => c2 (by rw [e])), fun c2 => ?_⟩
    have e : P' j = P j := by
      rw [← q_self (P' j), ← q_self (P j), c, c2]
    unfold wX8_turn_b287
    rw [← nI_succ]
    refine hk9 _ _ _ ⟨rfl, rfl, ?_⟩
    show _ = nI (cnt j _ + _)
    rw [if_neg (by simp [e]), Nat.add_zero, Int32.add_zero]
  · rintro S1 _ _ k9 ⟨rfl, rfl, rfl⟩
    unfold wX8_turn_b236
    rw [vns]
    exact ⟨m_is h, if_p (nI_le (Nat.le_refl _) (by omega)) kk⟩
theorem p_turnM {Φ : Hp → Int32 → Prop} {ns n : Nat} {x y : Int32} {eng brk : Nat → Bool} {P W : Nat → Rat} {mk : Nat → Int} {life : Nat → Nat} {pn : Nat → Nat → Nat → Bool} {ds : Nat → Nat} {V : Nat → Nat → Int32}
    (h : Rep A E ls nl nc nd S D) (hG : GrOK ns nl G) (hL : Lev nl G (dp G nl)) (hM : LkM G nl D) (hns : D.FI 543 70 = nI ns) (hnl : D.FI 544 70 = nI nl) (hnd : D.FI 546 70 = nI nd) (hnd4 : nd ≤ 4) (hdr : DrA G nl ns 79 D) (hoff : ∀ k, k < nl → D.AI 87 k = bI (!eng k)) (hbrk : ∀ k, k < nl → D.AI 88 k = bI (brk k)) (hlf : ∀ k, k < nl → D.AI 89 k = nI (life k) ∧ life k ≤ 999)
    (hP : MR D 72 ns P) (hmk : ∀ k, k < nl → D.AJ 93 k = i6 (mk k)) (hW : MR D 91 nl W) (hds : ∀ d, d < nd → D.AI 100 d = nI (ds d) ∧ ds d < ns) (hpn : PinM pn D) (hV : ∀ d t, d < nd → t < 8 → D.AI (240 + d) t = V d t)
    (hR : RI G nl (fun k => eng k && !brk k) P mk) (hB : BdP G nl n P) (hMB : MB nl mk) (hWB : BdW G nl n W) (hn : 0 < ns → n + 48 ≤ 24560)
    (kt1 : ¬ inR x ns → ∀ S' D', Rep A E ls nl nc nd S' D' → Thr 1 D D' → Φ S' 0) (kt2 : inR x ns → ¬ (-48 ≤ y.toInt ∧ y.toInt ≤ 48) → ∀ S' D', Rep A E ls nl nc nd S' D' → Thr 2 D D' → Φ S' 0) (kt3 : ∀ inp, inp < ns → x = nI inp → (-48 ≤ y.toInt ∧ y.toInt ≤ 48) → drv G nl inp ≠ none → ∀ S' D', Rep A E ls nl nc nd S' D' → Thr 3 D D' → Φ S' 0)
    (kk : ∀ inp, inp < ns → x = nI inp → (-48 ≤ y.toInt ∧ y.toInt ≤ 48) → drv G nl inp = none → ∃ Ps tns mks, Ps 0 = P ∧ mks 0 = mk ∧ Sq G nl (fun k => eng k && !brk k) inp (wayOf y) y.toInt.natAbs Ps tns mks ∧ ∀ S' D', Rep A E ls nl nc nd S' D' →
      SamG (fun i r => i = 549 ∧ r = 70) (fun r => r = 78 ∨ r = 80 ∨ r = 88 ∨ (240 ≤ r ∧ r < 240 + nd)) (fun r => (72 ≤ r ∧ r < 78) ∨ (91 ≤ r ∧ r < 94)) D D' →
      D'.FI 549 70 = 0 → (∀ k, k < nl → D'.AI 88 k = bI (brk k || bw (Wsq G (fun k => eng k && !brk k) tns W y.toInt.natAbs) life k)) →
      MR D' 72 ns (Ps y.toInt.natAbs) → (∀ k, k < nl → D'.AJ 93 k = i6 (mks y.toInt.natAbs k)) → MR D' 91 nl (Wsq G (fun k => eng k && !brk k) tns W y.toInt.natAbs) → (∀ d t, d < nd → t < 8 → D'.AI (240 + d) t = Vsq pn ds Ps tns V y.toInt.natAbs d t) →
      Φ S' (nI (cnt ns (fun s => decide (Ps y.toInt.natAbs s ≠ P s))))) : wX8_turn S (A 70) x y Φ := by
  have h14 := hG.1
  have hnl14 := hG.2.1
  unfold wX8_turn wX8_turn_b0
  refine ⟨m_is h, t_isNoShaft h hns h14 ⟨m_is h, t_isThrown _ h rfl (fun hb S1 D1 h1 t1 => fi_p rfl ?_) (fun hb S1 D1 h1 t1 => fi_n (by decide) (kt1 (fun q => by rw [inRb_t.mpr q] at hb; exact absurd hb (by decide)) S1 D1 h1 t1))⟩⟩
  have hin : inR x ns := inRb_t.mp (by cases e : inRb x ns; rw [e] at hb; exact absurd hb (by decide); rfl)
  obtain ⟨inp, hi, rfl⟩ := inR_ex hin (by omega)
  have go30 : ∀ b : Bool, b = (!decide (-48 ≤ y.toInt ∧ y.toInt ≤ 48)) → wX8_turn_b30 (A 70) (nI inp) y Φ S1 (A 70) (bI b) := fun b hb2 => by
    unfold wX8_turn_b30
    refine ⟨m_is h1, t_isThrown b h1 rfl (fun e S2 D2 h2 t2 => fi_p rfl ?_) (fun e S2 D2 h2 t2 => fi_n (by decide) (kt2 hin (fun q => by rw [hb2, decide_eq_true q] at e; exact absurd e (by decide)) S2 D2 h2 (t1.tr t2)))⟩
    have hy : -48 ≤ y.toInt ∧ y.toInt ≤ 48 := by
      by_cases c : -48 ≤ y.toInt ∧ y.toInt ≤ 48
      · exact c
      · rw [hb2, decide_eq_false c] at e
        exact absurd e (by decide)
    have t12 := t1.tr t2
    have a79 := m_arr h2 519 79 21 14
    have dv : S2.AI (A 79) (nI inp).toNatClampNeg = match drv G nl inp with | none => -1 | some k => nI k := rd_I h2 (al_s (by decide)) (by omega) (by rw [t12.AI]; exact hdr inp hi)
    have go53 : ∀ b3 : Bool, b3 = (drv G nl inp).isSome → wX8_turn_b53 (A 70) (nI inp) y Φ S2 (A 70) (bI b3) := fun b3 hb3 => by
      unfold wX8_turn_b53
      refine ⟨m_is h2, t_isThrown b3 h2 rfl (fun e S3 D3 h3 t3 => if_p rfl ?_) (fun e S3 D3 h3 t3 => if_n (by decide) (kt3 inp hi rfl hy (fun q => by rw [hb3, q] at e; exact absurd e (by decide)) S3 D3 h3 (t12.tr t3)))⟩
      have t13 := t12.tr t3
      have hnone : drv G nl inp = none := by
        cases ed : drv G nl inp
        · rfl
        · rw [hb3, ed] at e
          exact absurd (show true = false from e) (by decide)
      obtain ⟨Ps, tns, mks, e0, em, hsq, fin⟩ := kk inp hi rfl hy hnone
      have hns0 : n + 48 ≤ 24560 := hn (by omega)
      have hNN : n + y.toInt.natAbs ≤ 24560 := by omega
      have hw : (wayOf y).natAbs ≤ 1 := by
        unfold wayOf
        by_cases c : y.toInt < 0
        · rw [if_pos c]
          decide
        · rw [if_neg c]
          decide
      have hR0 : RI G nl (fun k => eng k && !brk k) (Ps 0) (mks 0) := by rw [e0, em]; exact hR
      have hB0 : BdP G nl n (Ps 0) := by rw [e0]; exact hB
      have hM0 : MB nl (mks 0) := by rw [em]; exact hMB
      have inv := sq_inv hG hL hw hsq hR0 hB0 hM0 hWB hNN
      have h0y : 0 ≤ y ↔ 0 ≤ y.toInt := Int32.le_iff_toInt_le
      have eA : (if 0 ≤ y then y else 0 - y) = nI y.toInt.natAbs := by
        apply Int32.toInt_inj.mp
        rw [nI_toInt (by omega)]
        by_cases c : 0 ≤ y
        · rw [if_pos c]
          have := h0y.mp c
          omega
        · have : ¬ 0 ≤ y.toInt := fun q => c (h0y.mpr q)
          rw [if_neg c, Int32.zero_sub, Int32.toInt_neg, Int.bmod_eq_of_le (by omega) (by omega)]
          omega
      refine t_mt1 (P := P) h3 hG hL (lkM_cg hM (fun r _ _ => by rw [t13.AI])) (by rw [t13.FI (by decide)]; exact hns) (drA_cg hdr (by rw [t13.AI])) hi (mr_other hP (by rw [t13.AJ]) (by rw [t13.AJ])) (fun S4 D4 h4 s4 d4 b4 r4 => ?_)
      have sA : SamG (fun i r => i = 549 ∧ r = 70) (fun r => r = 78 ∨ r = 80 ∨ r = 88 ∨ (240 ≤ r ∧ r < 240 + nd)) (fun r => (72 ≤ r ∧ r < 78) ∨ (91 ≤ r ∧ r < 94)) D D4 := (t13.1.wk (fun _ _ q => q) (fun r q => q.elim) (fun r q => q.elim)).tr (s4.wk (fun _ _ q => q.elim) (fun r q => by omega) (fun r q => by omega))
      have f4 : D4.FI 549 70 = 0 := (s4.1 549 70 (fun q => q)).trans t13.2
      have cAJ : ∀ r, ¬ (r = 76 ∨ r = 77) → D4.AJ r = D.AJ r := fun r hr => by
        rw [s4.2.2 r hr, t13.AJ]
      have cAI : ∀ r, ¬ (r = 78 ∨ r = 80) → D4.AI r = D.AI r := fun r hr => by
        rw [s4.2.1 r hr, t13.AI]
      have cFI : ∀ i r, i ≠ 549 → D4.FI i r = D.FI i r := fun i r hi => by
        rw [s4.1 i r (fun q => q), t13.FI hi]
      -- the steps
      refine it2_ex (fun j S5 v => v = nI j ∧ ∃ D5, Rep A E ls nl nc nd S5 D5 ∧ SamX (fun r => 240 ≤ r ∧ r < 240 + nd) (fun r => (72 ≤ r ∧ r < 76) ∨ (91 ≤ r ∧ r < 94)) D4 D5 ∧ MR D5 72 ns (Ps j) ∧ (∀ k, k < nl → D5.AJ 93 k = i6 (mks j k)) ∧ MR D5 91 nl (Wsq G (fun k => eng k && !brk k) tns W j) ∧ (∀ d t, d < nd → t < 8 → D5.AI (240 + d) t = Vsq pn ds Ps tns V j d t)) y.toInt.natAbs ?_ ?_ ⟨rfl, D4, h4, SamX.rf, ?_, fun k hk => ?_, ?_, fun d t hd ht => ?_⟩
      · rintro j hj S5 _ k9 ⟨rfl, D5, h5, s5, p5, m5, w5, v5⟩ hk9
        obtain ⟨a1, a2, a3, a4⟩ := inv j (Nat.le_of_lt hj)
        obtain ⟨b1, b2⟩ := hsq j hj
        have main : ∀ z2 : Int32, z2.toInt64 = i6 (wayOf y) → wX8_turn_b159 (A 70) (nI inp) y Φ k9 S5 (nI j) (A 70) (nI inp) z2 := fun z2 hz => by
          unfold wX8_turn_b159
          refine ⟨m_is h5, p_mstep (n := n + j) (eng := eng) (brk := brk) (ds := ds) (pn := pn) h5 hG hL (lkM_cg hM (fun r q1 q2 => by rw [s5.2.1 r (by omega), cAI r (by omega)])) (by rw [s5.1, cFI _ _ (by decide)]; exact hns) (by rw [s5.1, cFI _ _ (by decide)]; exact hnl) (by rw [s5.1, cFI _ _ (by decide)]; exact hnd) hnd4 (drA_cg hdr (by rw [s5.2.1 _ (by omega), cAI _ (by decide)])) (fun k hk => by rw [s5.2.1 _ (by omega), cAI _ (by decide)]; exact hoff k hk) (fun k hk => by rw [s5.2.1 _ (by omega), cAI _ (by decide)]; exact hbrk k hk) (fun s hs => by rw [s5.2.1 _ (by omega)]; exact d4 s hs) (fun s hs => by rw [s5.2.1 _ (by omega)]; exact b4 s hs) hnone hi hz hw p5 m5 (fun k hk => a3 k hk) b1 a1 (by omega) a2 w5 a4 (fun d hd => by rw [s5.2.1 _ (by omega), cAI _ (by decide)]; exact hds d hd) (fun d p t hd hp ht => by rw [s5.2.1 _ (by omega), cAI _ (by omega)]; exact hpn d p t hd hp ht) (fun S6 D6 h6 s6 p6 m6 w6 v6 => ?_)⟩
          rw [← nI_succ]
          refine hk9 _ _ ⟨rfl, D6, h6, s5.tr s6, ?_, m6, w6, fun d t hd ht => ?_⟩
          · rw [b2]
            exact p6
          · rw [v6 d t hd ht]
            exact hits_congr (v5 d t hd ht)
        unfold wX8_turn_b140
        rw [eA]
        refine if_n (nI_ge hj (by omega)) ?_
        by_cases c : 0 ≤ y
        · refine if_p c (main 1 ?_)
          have := h0y.mp c
          have e : wayOf y = 1 := if_neg (by omega)
          rw [e]
          rfl
        · refine if_n c (main (-1) ?_)
          have : ¬ 0 ≤ y.toInt := fun q => c (h0y.mpr q)
          have e : wayOf y = -1 := if_pos (by omega)
          rw [e]
          rfl
      · rintro S5 _ k9 ⟨rfl, D5, h5, s5, p5, m5, w5, v5⟩
        obtain ⟨i1, i2, i3, i4⟩ := inv _ (Nat.le_refl _)
        unfold wX8_turn_b140
        rw [eA]
        refine if_p (nI_le (Nat.le_refl _) (by omega)) ?_
        have r5 : MR D5 76 ns P := mr_other r4 (s5.2.2 76 (by decide)) (s5.2.2 77 (by decide))
        refine t_mt3 (life := life) (brk := brk) (n := n + y.toInt.natAbs) h5 hG hL (by rw [s5.1, cFI _ _ (by decide)]; exact hnl) (fun k hk => by rw [s5.2.1 _ (by omega), cAI _ (by decide)]; exact hlf k hk) (fun k hk => by rw [s5.2.1 _ (by omega), cAI _ (by decide)]; exact hbrk k hk) w5 i4 (by omega) (fun S6 D6 h6 s6 b6 => ?_)
        have p6 : MR D6 72 ns (Ps y.toInt.natAbs) := mr_other p5 (s6.2.2 72 (fun q => q)) (s6.2.2 73 (fun q => q))
        refine t_mt4 h6 (by rw [s6.1 543 70 (fun q => q), s5.1, cFI _ _ (by decide)]; exact hns) h14 p6 (mr_other r5 (s6.2.2 76 (fun q => q)) (s6.2.2 77 (fun q => q))) (sm_of hG i2 (by omega)) (sm_of hG hB (by omega)) (fin S6 D6 h6 (sA.tr (s5.G.wk (fun _ _ q => q) (fun r q => by omega) (fun r q => by omega) |>.tr (s6.wk (fun _ _ q => q.elim) (fun r q => by omega) (fun r q => q.elim)))) ?_ b6 p6 (fun k hk => ?_) (mr_other w5 (s6.2.2 91 (fun q => q)) (s6.2.2 92 (fun q => q))) (fun d t hd ht => ?_))
        · rw [s6.1 549 70 (fun q => q), s5.1]
          exact f4
        · rw [s6.2.2 93 (fun q => q)]
          exact m5 k hk
        · rw [s6.2.1 _ (by omega)]
          exact v5 d t hd ht
      · rw [e0]
        exact mr_other hP (cAJ 72 (by decide)) (cAJ 73 (by decide))
      · rw [cAJ 93 (by decide), em]
        exact hmk k hk
      · exact mr_other hW (cAJ 91 (by decide)) (cAJ 92 (by decide))
      · rw [cAI _ (by omega)]
        exact hV d t hd ht
    refine ⟨m_is h2, A 79, a79.1, a79.2.1, by rw [a79.2.2]; exact in_nI (by omega) (by decide), ?_⟩
    rw [dv]
    cases ed : drv G nl inp with
    | none => exact if_p rfl (go53 false (by rw [ed]; rfl))
    | some k =>
      have hk := (drv_some ed).1
      exact if_n (nI_nm (by omega)) (go53 true (by rw [ed]; rfl))
  refine t_isIn ?_
  have e48 : decide ((-48 : Int32).toInt ≤ y.toInt ∧ y.toInt ≤ (48 : Int32).toInt) = decide (-48 ≤ y.toInt ∧ y.toInt ≤ 48) := rfl
  rw [e48]
  cases e : decide (-48 ≤ y.toInt ∧ y.toInt ≤ 48)
  · exact fi_p rfl (go30 true (by rw [e]; rfl))
  · exact fi_n (by decide) (go30 false (by rw [e]; rfl))
end MT8
