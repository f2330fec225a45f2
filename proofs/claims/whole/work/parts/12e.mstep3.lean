/-! THE REFERENCE'S STEP: shafts behind shafts, and all of it -/
def Rd (G : Nat → Nat → Nat) (nl inp : Nat) (tn : Nat → Rat) (d j s : Nat) : Rat := if s = inp ∨ dp G nl s < d ∨ (dp G nl s = d ∧ s < j) then tn s else 0
def Md (G : Nat → Nat → Nat) (nl : Nat) (mk mk' : Nat → Int) (d j k : Nat) : Int := if dp G nl (G k 3) < d ∨ (dp G nl (G k 3) = d ∧ G k 3 < j) then mk' k else mk k
theorem dp_pos {ns nl : Nat} {G : Nat → Nat → Nat} {lv : Nat → Nat} (hG : GrOK ns nl G) (hL : Lev nl G lv) {k : Nat} (hk : k < nl) : 0 < dp G nl (G k 3) := by
  rw [dp_link hG hL.1 (fun s => by have := hL.2 s; omega) hk]
  omega
section M10
variable {A E : Nat → Nat} {ls : Nat → List Nat} {nl nc nd : Nat} {S : Hp} {D : Dt} {G : Nat → Nat → Nat}
theorem m_ph3 {Φ : Hp → Prop} {ns n inp : Nat} {eng brk : Nat → Bool} {P tn : Nat → Rat} {mk mk' : Nat → Int} {wy : Int} {x1 x2 : Int32} (h : Rep A E ls nl nc nd S D) (hG : GrOK ns nl G) (hL : Lev nl G (dp G nl)) (hM : LkM G nl D) (hns : D.FI 543 70 = nI ns) (hdr : DrA G nl ns 79 D) (hoff : ∀ k, k < nl → D.AI 87 k = bI (!eng k)) (hbrk : ∀ k, k < nl → D.AI 88 k = bI (brk k))
    (hdep : ∀ s, s < ns → D.AI 80 s = nI (dp G nl s)) (hbeh : ∀ s, s < ns → D.AI 78 s = bI (!decide (s = inp) && bh G nl inp s)) (hi : drv G nl inp = none) (hP : MR D 72 ns P) (hR : MR D 74 ns (Rd G nl inp tn 1 0)) (hmk : ∀ k, k < nl → D.AJ 93 k = i6 (mk k)) (hrm : ∀ k, k < nl → (mk k).natAbs ≤ 4000000000000000000)
    (hst : StepEq G nl (fun k => eng k && !brk k) P mk inp wy tn mk') (hRI : RI G nl (fun k => eng k && !brk k) P mk) (hn : n ≤ 24560) (hB : BdP G nl n P) (htb : ∀ s, Bd (pm G nl s) (qm G nl s) (tn s))
    (kk : ∀ S' D', Rep A E ls nl nc nd S' D' → SamM (fun r => r = 74 ∨ r = 75 ∨ r = 93) D D' → MR D' 74 ns tn → (∀ k, k < nl → D'.AJ 93 k = i6 (mk' k)) → ∃ n, it2 (wX8_step_b141 (A 70) x1 x2 Φ) n S' 0) : ∃ n, it2 (wX8_step_b61 (A 70) x1 x2 Φ) n S 1 := by
  have h14 := hG.1
  have hnl14 := hG.2.1
  refine it2_ex (fun d S1 v => v = nI (d + 1) ∧ ∃ D1, Rep A E ls nl nc nd S1 D1 ∧ SamM (fun r => r = 74 ∨ r = 75 ∨ r = 93) D D1 ∧ MR D1 74 ns (Rd G nl inp tn (d + 1) 0) ∧ ∀ k, k < nl → D1.AJ 93 k = i6 (Md G nl mk mk' (d + 1) 0 k)) 3 ?_ ?_ ⟨rfl, D, h, SamM.rf, hR, fun k hk => ?_⟩
  · rintro d hd S1 _ k61 ⟨rfl, D1, h1, s1, r1, m1⟩ hk61
    unfold wX8_step_b61
    refine if_n (nI_nlt (a := 3) (b := d + 1) (by omega) (by decide)) ?_
    refine it3_ex (fun j S2 a v => a = nI (d + 1) ∧ v = nI j ∧ ∃ D2, Rep A E ls nl nc nd S2 D2 ∧ SamM (fun r => r = 74 ∨ r = 75 ∨ r = 93) D D2 ∧ MR D2 74 ns (Rd G nl inp tn (d + 1) j) ∧ ∀ k, k < nl → D2.AJ 93 k = i6 (Md G nl mk mk' (d + 1) j k)) ns ?_ ?_ ⟨rfl, rfl, D1, h1, s1, r1, m1⟩
    · rintro j hj S2 _ _ k69 ⟨rfl, rfl, D2, h2, s2, r2, m2⟩ hk69
      have vns : S2.FI 543 (A 70) = nI ns := by
        rw [rep_FI h2 543 (by decide) m_al, s2.1]
        exact hns
      have j14 : ∀ n, n = 14 → vp_in (nI j) n := fun n e => by
        rw [e]
        exact in_nI (by omega) (by decide)
      have a78 := m_arr h2 518 78 23 14
      have a80 := m_arr h2 520 80 21 14
      have v78 : S2.AI (A 78) (nI j).toNatClampNeg = bI (!decide (j = inp) && bh G nl inp j) := rd_I h2 (al_s (by decide)) (by omega) (by rw [s2.2.1]; exact hbeh j hj)
      have v80 : S2.AI (A 80) (nI j).toNatClampNeg = nI (dp G nl j) := rd_I h2 (al_s (by decide)) (by omega) (by rw [s2.2.1]; exact hdep j hj)
      have hdp := hL.2 j
      -- nothing to do at this shaft
      have skip : ((j = inp ∨ dp G nl j ≠ d + 1) ∨ (tn j = 0 ∧ ∀ k, k < nl → G k 3 = j → mk' k = mk k)) → wX8_step_b127 (A 70) x1 x2 Φ k61 k69 S2 (nI (d + 1)) (nI j) := fun hsk => by
        unfold wX8_step_b127
        rw [← nI_succ]
        have hinp0 : dp G nl inp = 0 := dp_none hi
        refine hk69 _ _ _ ⟨rfl, rfl, D2, h2, s2, mr_congr r2 (fun i hi' => ?_), fun k hk => ?_⟩
        · unfold Rd
          by_cases c : i = j
          · subst c
            rcases hsk with (c1 | c1) | ⟨c1, -⟩
            · rw [if_pos (Or.inl c1), if_pos (Or.inl c1)]
            · by_cases c2 : i = inp ∨ dp G nl i < d + 1 ∨ (dp G nl i = d + 1 ∧ i < i)
              · rw [if_pos c2, if_pos (by omega)]
              · rw [if_neg c2, if_neg (by omega)]
            · rw [c1, ite_self, ite_self]
          · by_cases c2 : i = inp ∨ dp G nl i < d + 1 ∨ (dp G nl i = d + 1 ∧ i < j)
            · rw [if_pos c2, if_pos (by omega)]
            · rw [if_neg c2, if_neg (by omega)]
        · rw [m2 k hk]
          unfold Md
          by_cases c : G k 3 = j
          · rcases hsk with (c1 | c1) | ⟨-, c1⟩
            · have := dp_pos hG hL hk
              rw [c, c1, hinp0] at this
              omega
            · by_cases c2 : dp G nl (G k 3) < d + 1 ∨ (dp G nl (G k 3) = d + 1 ∧ G k 3 < j)
              · rw [if_pos c2, if_pos (by omega)]
              · have c3 : dp G nl (G k 3) ≠ d + 1 := by rw [c]; exact c1
                rw [if_neg c2, if_neg (by omega)]
            · rw [c1 k hk c, ite_self, ite_self]
          · by_cases c2 : dp G nl (G k 3) < d + 1 ∨ (dp G nl (G k 3) = d + 1 ∧ G k 3 < j)
            · rw [if_pos c2, if_pos (by omega)]
            · rw [if_neg c2, if_neg (by omega)]
      unfold wX8_step_b69
      rw [vns]
      refine ⟨m_is h2, if_n (nI_ge hj (by omega)) ⟨A 78, a78.1, a78.2.1, j14 _ a78.2.2, ?_⟩⟩
      rw [v78]
      cases hb : (!decide (j = inp) && bh G nl inp j)
      · refine if_p rfl (skip ?_)
        by_cases c : j = inp
        · exact Or.inl (Or.inl c)
        · rw [decide_eq_false c, Bool.not_false, Bool.true_and] at hb
          exact Or.inr (bh_tn hG hL hst hRI j hb)
      · simp only [Bool.and_eq_true, Bool.not_eq_true', decide_eq_false_iff_not] at hb
        refine if_n (by decide) ⟨A 80, a80.1, a80.2.1, j14 _ a80.2.2, ?_⟩
        rw [v80]
        by_cases cd : dp G nl j = d + 1
        · refine fi_p (by rw [cd]) ?_
          obtain ⟨k, hdk⟩ : ∃ k, drv G nl j = some k := by
            cases q : drv G nl j with
            | none =>
              rw [dp_none q] at cd
              omega
            | some k => exact ⟨k, rfl⟩
          obtain ⟨hk, ek⟩ := drv_some hdk
          subst ek
          have l1 := hL.1 k (G k 1) hk (Or.inl rfl)
          have hM2 : LkM G nl D2 := by
            unfold LkM
            rw [s2.2.1]
            exact hM
          have mdk : Md G nl mk mk' (d + 1) (G k 3) k = mk k := if_neg (by omega)
          have hmk2 := m2 k hk
          rw [mdk] at hmk2
          refine p_mfollow (n := n) h2 hM2 hG hL hk (by rw [s2.2.1]; have := hdr _ hj; rw [hdk] at this; exact this) (by rw [s2.2.1]; exact hoff k hk) (by rw [s2.2.1]; exact hbrk k hk) (mr_other hP (s2.2.2 72 (by decide)) (s2.2.2 73 (by decide))) r2 hmk2 (hrm k hk) hst hRI hn hB htb hb.1 ?_ (fun hp => ?_) (fun S11 D11 h11 s11 m11 q11 => ⟨m_is h11, ?_⟩)
          · unfold Rd
            rw [if_pos (by omega)]
          · have l2 := hL.1 k (G k 2) hk (Or.inr ⟨hp, rfl⟩)
            unfold Rd
            rw [if_pos (by omega)]
          · obtain ⟨t1, t2⟩ := m_top h11 q11
            have b74 := m_arr h11 514 74 22 14
            refine ⟨A 74, b74.1, b74.2.1, j14 _ b74.2.2, fun S16 e16 => ?_⟩
            rw [t1, cl_nI (by omega)] at e16
            have h16 := set_AJ h11 (r := 74) (G k 3) (i6 (tn (G k 3)).num) (al_s (by decide))
            rw [← e16] at h16
            have t2' : S16.FJ 548 (A 70) = i6 (tn (G k 3)).den := by
              rw [e16]
              exact t2
            have b75 := m_arr h16 515 75 22 14
            refine ⟨A 75, b75.1, b75.2.1, j14 _ b75.2.2, fun S20 e20 => ?_⟩
            rw [t2', cl_nI (by omega)] at e20
            have h20 := set_AJ h16 (r := 75) (G k 3) (i6 (tn (G k 3)).den) (al_s (by decide))
            rw [← e20] at h20
            unfold wX8_step_b127
            rw [← nI_succ]
            refine hk69 _ _ _ ⟨rfl, rfl, _, h20, (s2.tr (s11.wk (fun r hr => Or.inr (Or.inr hr)))).tr ((samM_set (Or.inl rfl)).tr (samM_set (Or.inr (Or.inl rfl)))), ?_, fun k' hk' => ?_⟩
            · have r11 : MR D11 74 ns (Rd G nl inp tn (d + 1) (G k 3)) := mr_other r2 (s11.2.2 74 (by decide)) (s11.2.2 75 (by decide))
              refine mr_congr (mr_set (i := G k 3) (q := tn (G k 3)) r11) (fun i hi' => ?_)
              unfold vup
              by_cases c : i = G k 3
              · rw [if_pos c, c]
                unfold Rd
                rw [if_pos (by omega)]
              · rw [if_neg c]
                unfold Rd
                by_cases c2 : i = inp ∨ dp G nl i < d + 1 ∨ (dp G nl i = d + 1 ∧ i < G k 3)
                · rw [if_pos c2, if_pos (by omega)]
                · rw [if_neg c2, if_neg (by omega)]
            · rw [dtAJ_n (fun q => absurd q.1 (by decide)), dtAJ_n (fun q => absurd q.1 (by decide)), m11 k']
              unfold Md
              by_cases c : k' = k
              · rw [if_pos c, c, if_pos (by omega)]
              · rw [if_neg c, m2 k' hk']
                have c5 : G k' 3 ≠ G k 3 := fun e => c (hG.2.2.2 k' k hk' hk e)
                unfold Md
                by_cases c2 : dp G nl (G k' 3) < d + 1 ∨ (dp G nl (G k' 3) = d + 1 ∧ G k' 3 < G k 3)
                · rw [if_pos c2, if_pos (by omega)]
                · rw [if_neg c2, if_neg (by omega)]
        · refine fi_n (fun q => cd ((nI_iff (by omega) (by omega)).mp q)) (skip (Or.inl (Or.inr cd)))
    · rintro S2 _ _ k69 ⟨rfl, rfl, D2, h2, s2, r2, m2⟩
      have vns : S2.FI 543 (A 70) = nI ns := by
        rw [rep_FI h2 543 (by decide) m_al, s2.1]
        exact hns
      unfold wX8_step_b69
      rw [vns, ← nI_succ]
      refine ⟨m_is h2, if_p (nI_le (Nat.le_refl _) (by omega)) (hk61 _ _ ⟨rfl, D2, h2, s2, mr_congr r2 (fun i hi' => ?_), fun k hk => ?_⟩)⟩
      · unfold Rd
        by_cases c2 : i = inp ∨ dp G nl i < d + 1 ∨ (dp G nl i = d + 1 ∧ i < ns)
        · rw [if_pos c2, if_pos (by omega)]
        · rw [if_neg c2, if_neg (by omega)]
      · have ht := (hG.2.2.1 k hk).2.2.2
        rw [m2 k hk]
        unfold Md
        by_cases c2 : dp G nl (G k 3) < d + 1 ∨ (dp G nl (G k 3) = d + 1 ∧ G k 3 < ns)
        · rw [if_pos c2, if_pos (by omega)]
        · rw [if_neg c2, if_neg (by omega)]
  · rintro S1 _ k61 ⟨rfl, D1, h1, s1, r1, m1⟩
    unfold wX8_step_b61
    refine if_p (nI_lt (a := 3) (b := 3 + 1) (by decide) (by decide)) (kk S1 D1 h1 s1 (mr_congr r1 (fun i hi' => ?_)) (fun k hk => ?_))
    · have := hL.2 i
      unfold Rd
      rw [if_pos (by omega)]
    · have := hL.2 (G k 3)
      rw [m1 k hk]
      unfold Md
      rw [if_pos (by omega)]
  · have := dp_pos hG hL hk
    rw [hmk k hk]
    unfold Md
    rw [if_neg (by omega)]
/-- all of a step -/
theorem p_mstep {Φ : Hp → Prop} {ns n inp : Nat} {eng brk : Nat → Bool} {P tn W : Nat → Rat} {mk mk' : Nat → Int} {wy : Int} {x : Int32} {pn : Nat → Nat → Nat → Bool} {ds : Nat → Nat} (h : Rep A E ls nl nc nd S D) (hG : GrOK ns nl G) (hL : Lev nl G (dp G nl)) (hM : LkM G nl D) (hns : D.FI 543 70 = nI ns) (hnl : D.FI 544 70 = nI nl) (hnd : D.FI 546 70 = nI nd) (hnd4 : nd ≤ 4) (hdr : DrA G nl ns 79 D) (hoff : ∀ k, k < nl → D.AI 87 k = bI (!eng k)) (hbrk : ∀ k, k < nl → D.AI 88 k = bI (brk k))
    (hdep : ∀ s, s < ns → D.AI 80 s = nI (dp G nl s)) (hbeh : ∀ s, s < ns → D.AI 78 s = bI (!decide (s = inp) && bh G nl inp s)) (hi : drv G nl inp = none) (hin : inp < ns) (hx : x.toInt64 = i6 wy) (hw : wy.natAbs ≤ 1) (hP : MR D 72 ns P) (hmk : ∀ k, k < nl → D.AJ 93 k = i6 (mk k)) (hrm : ∀ k, k < nl → (mk k).natAbs ≤ 4000000000000000000)
    (hst : StepEq G nl (fun k => eng k && !brk k) P mk inp wy tn mk') (hRI : RI G nl (fun k => eng k && !brk k) P mk) (hn : n ≤ 24560) (hB : BdP G nl n P) (hW : MR D 91 nl W) (hWB : BdW G nl n W) (hds : ∀ d, d < nd → D.AI 100 d = nI (ds d) ∧ ds d < ns) (hpn : PinM pn D)
    (kk : ∀ S' D', Rep A E ls nl nc nd S' D' → SamX (fun r => 240 ≤ r ∧ r < 240 + nd) (fun r => (72 ≤ r ∧ r < 76) ∨ (91 ≤ r ∧ r < 94)) D D' → MR D' 72 ns (fun s => P s + tn s) → (∀ k, k < nl → D'.AJ 93 k = i6 (mk' k)) → MR D' 91 nl (wnx G (fun k => eng k && !brk k) tn W) → (∀ d t, d < nd → t < 8 → D'.AI (240 + d) t = hits (pn d) (fl 24 (P (ds d))) (fl 24 (P (ds d) + tn (ds d))) (fun t => D.AI (240 + d) t) t) → Φ S') : wX8_step S (A 70) (nI inp) x Φ := by
  have h14 := hG.1
  have htb := tn_bd hG hL hw hst hRI
  unfold wX8_step wX8_step_b0
  refine it2_ex (fun j S1 v => v = nI j ∧ ∃ D1, Rep A E ls nl nc nd S1 D1 ∧ SamM (fun r => r = 74 ∨ r = 75) D D1 ∧ ∀ i, i < j → D1.AJ 74 i = 0 ∧ D1.AJ 75 i = 1) ns ?_ ?_ ⟨rfl, D, h, SamM.rf, fun i hi => absurd hi (Nat.not_lt_zero i)⟩
  · rintro j hj S1 _ k9 ⟨rfl, D1, h1, s1, r1⟩ hk9
    have vns : S1.FI 543 (A 70) = nI ns := by
      rw [rep_FI h1 543 (by decide) m_al, s1.1]
      exact hns
    have j14 : ∀ n, n = 14 → vp_in (nI j) n := fun n e => by
      rw [e]
      exact in_nI (by omega) (by decide)
    have a74 := m_arr h1 514 74 22 14
    unfold wX8_step_b2
    rw [vns]
    refine ⟨m_is h1, if_n (nI_ge hj (by omega)) ⟨A 74, a74.1, a74.2.1, j14 _ a74.2.2, fun S16 e16 => ?_⟩⟩
    rw [cl_nI (by omega)] at e16
    have h16 := set_AJ h1 (r := 74) j 0 (al_s (by decide))
    rw [← e16] at h16
    have a75 := m_arr h16 515 75 22 14
    refine ⟨A 75, a75.1, a75.2.1, j14 _ a75.2.2, fun S20 e20 => ?_⟩
    rw [cl_nI (by omega)] at e20
    have h20 := set_AJ h16 (r := 75) j 1 (al_s (by decide))
    rw [← e20] at h20
    rw [← nI_succ]
    refine hk9 _ _ ⟨rfl, _, h20, s1.tr ((samM_set (Or.inl rfl)).tr (samM_set (Or.inr rfl))), fun i hi => ?_⟩
    by_cases c : i = j
    · rw [c]
      exact ⟨(dtAJ_n (fun q => absurd q.1 (by decide))).trans dtAJ_s, dtAJ_s⟩
    · obtain ⟨q1, q2⟩ := r1 i (by omega)
      exact ⟨(dtAJ_n (fun q => absurd q.1 (by decide))).trans ((dtAJ_n (fun q => c q.2)).trans q1), (dtAJ_n (fun q => c q.2)).trans ((dtAJ_n (fun q => absurd q.1 (by decide))).trans q2)⟩
  · rintro S1 _ k9 ⟨rfl, D1, h1, s1, r1⟩
    have vns : S1.FI 543 (A 70) = nI ns := by
      rw [rep_FI h1 543 (by decide) m_al, s1.1]
      exact hns
    have i14 : ∀ n, n = 14 → vp_in (nI inp) n := fun n e => by
      rw [e]
      exact in_nI (by omega) (by decide)
    unfold wX8_step_b2
    rw [vns, hx, i6_24]
    refine ⟨m_is h1, if_p (nI_le (Nat.le_refl _) (by omega)) (t_result h1 (by unfold Rg; omega) rg_24 (by decide) (fun S3 D3 h3 t3 q3 => ⟨m_is h3, ?_⟩))⟩
    obtain ⟨t1, t2⟩ := m_top h3 q3
    have b74 := m_arr h3 514 74 22 14
    refine ⟨A 74, b74.1, b74.2.1, i14 _ b74.2.2, fun S8 e8 => ?_⟩
    rw [t1, cl_nI (by omega)] at e8
    have h8 := set_AJ h3 (r := 74) inp (i6 (Rat.divInt wy 24).num) (al_s (by decide))
    rw [← e8] at h8
    have t2' : S8.FJ 548 (A 70) = i6 (Rat.divInt wy 24).den := by
      rw [e8]
      exact t2
    have b75 := m_arr h8 515 75 22 14
    refine ⟨A 75, b75.1, b75.2.1, i14 _ b75.2.2, fun S12 e12 => ?_⟩
    rw [t2', cl_nI (by omega)] at e12
    have h12 := set_AJ h8 (r := 75) inp (i6 (Rat.divInt wy 24).den) (al_s (by decide))
    rw [← e12] at h12
    obtain ⟨D12, h12', s12, r12⟩ : ∃ D12, Rep A E ls nl nc nd S12 D12 ∧ SamM (fun r => r = 74 ∨ r = 75) D D12 ∧ MR D12 74 ns (Rd G nl inp tn 1 0) := by
      refine ⟨_, h12, (s1.tr t3.M).tr ((samM_set (Or.inl rfl)).tr (samM_set (Or.inr rfl))), ?_⟩
      have m0 : MR D3 74 ns (fun _ => 0) := fun i hi => by
        obtain ⟨q1, q2⟩ := r1 i hi
        rw [t3.2.2, q1, q2]
        exact fq_0
      refine mr_congr (mr_set (i := inp) (q := Rat.divInt wy 24) m0) (fun i hi => ?_)
      unfold vup
      by_cases c : i = inp
      · rw [if_pos c, c]
        unfold Rd
        rw [if_pos (Or.inl rfl), hst.1]
      · rw [if_neg c]
        unfold Rd
        by_cases c2 : i = inp ∨ dp G nl i < 1 ∨ (dp G nl i = 1 ∧ i < 0)
        · rw [if_pos c2]
          have hd : drv G nl i = none := lev0 hL.1 (by omega)
          exact (hst.2.1 i c (fun k hk _ => drv_none.mp hd k hk)).symm
        · rw [if_neg c2]
    refine m_ph3 (n := n) h12' hG hL (by unfold LkM; rw [s12.2.1]; exact hM) (by rw [s12.1]; exact hns) (by unfold DrA; rw [s12.2.1]; exact hdr) (by rw [s12.2.1]; exact hoff) (by rw [s12.2.1]; exact hbrk) (by rw [s12.2.1]; exact hdep) (by rw [s12.2.1]; exact hbeh) hi (mr_other hP (s12.2.2 72 (by decide)) (s12.2.2 73 (by decide))) r12 (fun k hk => by rw [s12.2.2 93 (by decide)]; exact hmk k hk) hrm hst hRI hn hB htb (fun S4 D4 h4 s4 r4 m4 => ?_)
    refine m_ph4 (n := n) h4 hG hL (by unfold LkM; rw [s4.2.1, s12.2.1]; exact hM) (by rw [s4.1, s12.1]; exact hnl) (by rw [s4.2.1, s12.2.1]; exact hoff) (by rw [s4.2.1, s12.2.1]; exact hbrk) (mr_other hW ((s4.2.2 91 (by decide)).trans (s12.2.2 91 (by decide))) ((s4.2.2 92 (by decide)).trans (s12.2.2 92 (by decide)))) r4 hn hWB htb (fun S5 D5 h5 s5 r5 => ?_)
    have e72 : D5.AJ 72 = D.AJ 72 := (s5.2.2 72 (by decide)).trans ((s4.2.2 72 (by decide)).trans (s12.2.2 72 (by decide)))
    have e73 : D5.AJ 73 = D.AJ 73 := (s5.2.2 73 (by decide)).trans ((s4.2.2 73 (by decide)).trans (s12.2.2 73 (by decide)))
    have r5' : MR D5 74 ns tn := mr_other r4 (s5.2.2 74 (by decide)) (s5.2.2 75 (by decide))
    have eAI : D5.AI = D.AI := by rw [s5.2.1, s4.2.1, s12.2.1]
    have eFI : D5.FI = D.FI := by rw [s5.1, s4.1, s12.1]
    refine m_ph5 (n := n) h5 hG (by rw [eFI]; exact hnd) hnd4 (mr_other hP e72 e73) r5' hn hB htb (ds := ds) (pn := pn) (by rw [eAI]; exact hds) (by unfold PinM; rw [eAI]; exact hpn) (fun S6 D6 h6 s6 r6 => ?_)
    refine m_ph6 (n := n) h6 hG (by rw [s6.1, eFI]; exact hns) (mr_other hP ((s6.2.2 72 (fun q => q)).trans e72) ((s6.2.2 73 (fun q => q)).trans e73)) (mr_other r5' (s6.2.2 74 (fun q => q)) (s6.2.2 75 (fun q => q))) hn hB htb (fun S7 D7 h7 s7 r7 => kk S7 D7 h7 ?_ r7 (fun k hk => ?_) ?_ (fun d t hd ht => ?_))
    · refine ⟨by rw [s7.1, s6.1, eFI], fun r hr => ?_, fun r hr => ?_⟩
      · rw [s7.2.1, s6.2.1 r hr, eAI]
      · rw [s7.2.2 r (by omega), s6.2.2 r (fun q => q), s5.2.2 r (by omega), s4.2.2 r (by omega), s12.2.2 r (by omega)]
    · rw [s7.2.2 93 (by decide), s6.2.2 93 (fun q => q), s5.2.2 93 (by decide)]
      exact m4 k hk
    · exact mr_other r5 ((s7.2.2 91 (by decide)).trans (s6.2.2 91 (fun q => q))) ((s7.2.2 92 (by decide)).trans (s6.2.2 92 (fun q => q)))
    · rw [s7.2.1, r6 d t hd ht, eAI]
end M10
