/-! THE REFERENCE'S STEP, whole -/
def wmo (G : Nat → Nat → Nat) (nl k : Nat) : Nat := 24 * ((dQ G nl 3 (G k 1)).1 * (if G k 0 = 112 then (dQ G nl 3 (G k 2)).1 else 1))
def wbo (G : Nat → Nat → Nat) (nl k : Nat) : Nat := if G k 0 = 112 then (dQ G nl 3 (G k 1)).2 * (dQ G nl 3 (G k 2)).1 + (dQ G nl 3 (G k 2)).2 * (dQ G nl 3 (G k 1)).1 else (dQ G nl 3 (G k 1)).2
def BdW (G : Nat → Nat → Nat) (nl n : Nat) (W : Nat → Rat) : Prop := ∀ k, k < nl → Bd (wmo G nl k) (n * wbo G nl k) (W k)
def wnx (G : Nat → Nat → Nat) (act : Nat → Bool) (tn W : Nat → Rat) (k : Nat) : Rat := if act k = true then W k + aq (tn (G k 1)) + (if G k 0 = 112 then aq (tn (G k 2)) else 0) else W k
theorem w_num {ns nl k : Nat} {G : Nat → Nat → Nat} {lv : Nat → Nat} (hG : GrOK ns nl G) (hL : Lev nl G lv) (hk : k < nl) : 0 < wmo G nl k ∧ wmo G nl k ≤ 1200000000000 ∧ wbo G nl k ≤ 100000000000 := by
  obtain ⟨r1, r2, r3, r4, r5⟩ := src_le hG hL hk
  unfold wmo wbo
  by_cases hp : G k 0 = 112
  · obtain ⟨r6, r7⟩ := r5 hp
    rw [if_pos hp, if_pos hp]
    have l1 : (dQ G nl 3 (G k 1)).1 * (dQ G nl 3 (G k 2)).1 ≤ 216000 * 216000 := Nat.mul_le_mul r2 r6
    have l2 : (dQ G nl 3 (G k 1)).2 * (dQ G nl 3 (G k 2)).1 ≤ 216000 * 216000 := Nat.mul_le_mul r3 r6
    have l3 : (dQ G nl 3 (G k 2)).2 * (dQ G nl 3 (G k 1)).1 ≤ 216000 * 216000 := Nat.mul_le_mul r7 r2
    have l0 : 0 < (dQ G nl 3 (G k 1)).1 * (dQ G nl 3 (G k 2)).1 := Nat.mul_pos r1 r4
    omega
  · rw [if_neg hp, if_neg hp]
    omega
/-- what a source adds to the wear, in the link's own modulus -/
theorem w_src {ns nl k : Nat} {G : Nat → Nat → Nat} {lv : Nat → Nat} (_hG : GrOK ns nl G) (_hL : Lev nl G lv) (_hk : k < nl) {tn : Nat → Rat} (htb : ∀ s, Bd (pm G nl s) (qm G nl s) (tn s)) :
    ∃ B1 B2, Bd (wmo G nl k) B1 (tn (G k 1)) ∧ (G k 0 = 112 → Bd (wmo G nl k) B2 (tn (G k 2))) ∧ B1 + B2 = wbo G nl k := by
  unfold wmo wbo
  by_cases hp : G k 0 = 112
  · rw [if_pos hp, if_pos hp]
    refine ⟨_, _, ?_, fun _ => ?_, rfl⟩
    · have := bd_scale (dQ G nl 3 (G k 2)).1 (htb (G k 1))
      unfold pm qm at this
      rw [Nat.mul_assoc] at this
      exact this
    · have := bd_scale (dQ G nl 3 (G k 1)).1 (htb (G k 2))
      unfold pm qm at this
      rw [Nat.mul_assoc, Nat.mul_comm (dQ G nl 3 (G k 2)).1] at this
      exact this
  · rw [if_neg hp, if_neg hp]
    refine ⟨_, 0, ?_, fun q => absurd q hp, rfl⟩
    have := htb (G k 1)
    unfold pm qm at this
    rw [Nat.mul_one]
    exact this
theorem bdW_step {ns nl n : Nat} {G : Nat → Nat → Nat} {lv : Nat → Nat} (hG : GrOK ns nl G) (hL : Lev nl G lv) {act : Nat → Bool} {tn W : Nat → Rat} (h : BdW G nl n W) (htb : ∀ s, Bd (pm G nl s) (qm G nl s) (tn s)) : BdW G nl (n + 1) (wnx G act tn W) := by
  intro k hk
  obtain ⟨B1, B2, b1, b2, b3⟩ := w_src hG hL hk htb
  have hw := h k hk
  unfold wnx
  rw [Nat.succ_mul]
  by_cases ha : act k = true
  · rw [if_pos ha]
    have x1 := bd_add hw (bd_abs b1)
    by_cases hp : G k 0 = 112
    · rw [if_pos hp]
      exact bd_le (bd_add x1 (bd_abs (b2 hp))) (by omega)
    · rw [if_neg hp, Rat.add_zero]
      exact bd_le x1 (by omega)
  · rw [if_neg ha]
    exact bd_le hw (by omega)
section M9
variable {A E : Nat → Nat} {ls : Nat → List Nat} {nl nc nd : Nat} {S : Hp} {D : Dt} {G : Nat → Nat → Nat}
theorem m_ph5 {Φ : Hp → Prop} {ns n : Nat} {P tn : Nat → Rat} {x1 x2 : Int32} {pn : Nat → Nat → Nat → Bool} {ds : Nat → Nat} (h : Rep A E ls nl nc nd S D) (hG : GrOK ns nl G) (hnd : D.FI 546 70 = nI nd) (hnd4 : nd ≤ 4) (hP : MR D 72 ns P) (hR : MR D 74 ns tn) (hn : n ≤ 24560) (hB : BdP G nl n P) (htb : ∀ s, Bd (pm G nl s) (qm G nl s) (tn s))
    (hds : ∀ d, d < nd → D.AI 100 d = nI (ds d) ∧ ds d < ns) (hpn : PinM pn D)
    (kk : ∀ S' D', Rep A E ls nl nc nd S' D' → SamX (fun r => 240 ≤ r ∧ r < 240 + nd) (fun _ => False) D D' → (∀ d t, d < nd → t < 8 → D'.AI (240 + d) t = hits (pn d) (fl 24 (P (ds d))) (fl 24 (P (ds d) + tn (ds d))) (fun t => D.AI (240 + d) t) t) → ∃ n, it2 (wX8_step_b228 (A 70) x1 x2 Φ) n S' 0) : ∃ n, it2 (wX8_step_b207 (A 70) x1 x2 Φ) n S 0 := by
  refine it2_ex (fun j S1 v => v = nI j ∧ ∃ D1, Rep A E ls nl nc nd S1 D1 ∧ SamX (fun r => 240 ≤ r ∧ r < 240 + nd) (fun _ => False) D D1 ∧ ∀ d t, d < nd → t < 8 → D1.AI (240 + d) t = if d < j then hits (pn d) (fl 24 (P (ds d))) (fl 24 (P (ds d) + tn (ds d))) (fun t => D.AI (240 + d) t) t else D.AI (240 + d) t) nd ?_ ?_ ⟨rfl, D, h, SamX.rf, fun d t _ _ => by rw [if_neg (Nat.not_lt_zero d)]⟩
  · rintro j hj S1 _ k9 ⟨rfl, D1, h1, s1, r1⟩ hk9
    have vnd : S1.FI 546 (A 70) = nI nd := by
      rw [rep_FI h1 546 (by decide) m_al, s1.1]
      exact hnd
    obtain ⟨d1, d2⟩ := hds j hj
    unfold wX8_step_b207
    rw [vnd]
    refine ⟨m_is h1, if_n (nI_ge hj (by omega)) (t_strikes (n := n) h1 hG (by omega) ?_ d2 ?_ ?_ hn hB htb (pn := pn) ?_ (fun S2 D2 h2 s2 r2 => ?_))⟩
    · rw [s1.2.1 100 (by omega)]
      exact d1
    · exact mr_other hP (s1.2.2 72 (fun q => q)) (s1.2.2 73 (fun q => q))
    · exact mr_other hR (s1.2.2 74 (fun q => q)) (s1.2.2 75 (fun q => q))
    · intro d' p t hd' hp ht
      rw [s1.2.1 _ (by omega)]
      exact hpn d' p t hd' hp ht
    · rw [← nI_succ]
      refine hk9 _ _ ⟨rfl, D2, h2, s1.tr (s2.wk (fun r hr => by omega) (fun r hr => hr)), fun d t hd ht => ?_⟩
      by_cases c : d = j
      · subst c
        rw [r2 t ht, if_pos (by omega)]
        exact hits_congr (by rw [r1 d t hd ht, if_neg (Nat.lt_irrefl d)])
      · rw [s2.2.1 _ (by omega), r1 d t hd ht]
        by_cases c2 : d < j
        · rw [if_pos c2, if_pos (by omega)]
        · rw [if_neg c2, if_neg (by omega)]
  · rintro S1 _ k9 ⟨rfl, D1, h1, s1, r1⟩
    have vnd : S1.FI 546 (A 70) = nI nd := by
      rw [rep_FI h1 546 (by decide) m_al, s1.1]
      exact hnd
    unfold wX8_step_b207
    rw [vnd]
    exact ⟨m_is h1, if_p (nI_le (Nat.le_refl _) (by omega)) (kk S1 D1 h1 s1 (fun d t hd ht => by rw [r1 d t hd ht, if_pos hd]))⟩
theorem m_ph4 {Φ : Hp → Prop} {ns n : Nat} {lv : Nat → Nat} {eng brk : Nat → Bool} {W tn : Nat → Rat} {x1 x2 : Int32} (h : Rep A E ls nl nc nd S D) (hG : GrOK ns nl G) (hL : Lev nl G lv) (hM : LkM G nl D) (hnl : D.FI 544 70 = nI nl) (hoff : ∀ k, k < nl → D.AI 87 k = bI (!eng k)) (hbrk : ∀ k, k < nl → D.AI 88 k = bI (brk k)) (hW : MR D 91 nl W) (hR : MR D 74 ns tn) (hn : n ≤ 24560) (hB : BdW G nl n W) (htb : ∀ s, Bd (pm G nl s) (qm G nl s) (tn s))
    (kk : ∀ S' D', Rep A E ls nl nc nd S' D' → SamM (fun r => r = 91 ∨ r = 92) D D' → MR D' 91 nl (wnx G (fun k => eng k && !brk k) tn W) → ∃ n, it2 (wX8_step_b207 (A 70) x1 x2 Φ) n S' 0) : ∃ n, it2 (wX8_step_b141 (A 70) x1 x2 Φ) n S 0 := by
  have hnl14 := hG.2.1
  refine it2_ex (fun j S1 v => v = nI j ∧ ∃ D1, Rep A E ls nl nc nd S1 D1 ∧ SamM (fun r => r = 91 ∨ r = 92) D D1 ∧ MR D1 91 nl (fun k => if k < j then wnx G (fun k => eng k && !brk k) tn W k else W k)) nl ?_ ?_ ⟨rfl, D, h, SamM.rf, mr_congr hW (fun i _ => by rw [if_neg (Nat.not_lt_zero i)])⟩
  · rintro j hj S1 _ k9 ⟨rfl, D1, h1, s1, r1⟩ hk9
    have vnl : S1.FI 544 (A 70) = nI nl := by
      rw [rep_FI h1 544 (by decide) m_al, s1.1]
      exact hnl
    have k16 : ∀ n, n = 16 → vp_in (nI j) n := fun n e => by
      rw [e]
      exact in_nI (by omega) (by decide)
    obtain ⟨hkk, hf, hs, ht⟩ := hG.2.2.1 j hj
    obtain ⟨g1, g2, g3, g4, g5, g6⟩ := hM j hj
    have a88 := m_arr h1 528 88 23 16
    have a87 := m_arr h1 527 87 23 16
    have a82 := m_arr h1 522 82 21 16
    have v88 : S1.AI (A 88) (nI j).toNatClampNeg = bI (brk j) := rd_I h1 (al_s (by decide)) (by omega) (by rw [s1.2.1]; exact hbrk j hj)
    have v87 : S1.AI (A 87) (nI j).toNatClampNeg = bI (!eng j) := rd_I h1 (al_s (by decide)) (by omega) (by rw [s1.2.1]; exact hoff j hj)
    have v82 : S1.AI (A 82) (nI j).toNatClampNeg = nI (G j 1) := rd_I h1 (al_s (by decide)) (by omega) (by rw [s1.2.1]; exact g2)
    obtain ⟨B1, B2, b1, b2, b3⟩ := w_src hG hL hj htb
    obtain ⟨w1, w2, w3⟩ := w_num hG hL hj
    have hWb := hB j hj
    have hnw : n * wbo G nl j ≤ 24560 * 100000000000 := Nat.mul_le_mul hn w3
    -- a link that doesn't act
    have skip : (eng j && !brk j) = false → wX8_step_b199 (A 70) x1 x2 Φ k9 S1 (nI j) := fun ha => by
      unfold wX8_step_b199
      rw [← nI_succ]
      refine hk9 _ _ ⟨rfl, D1, h1, s1, mr_congr r1 (fun i hi => ?_)⟩
      by_cases c : i = j
      · subst c
        rw [if_neg (Nat.lt_irrefl i), if_pos (by omega)]
        unfold wnx
        rw [if_neg (fun q => absurd (ha.symm.trans q) (by decide))]
      · by_cases c2 : i < j
        · rw [if_pos c2, if_pos (by omega)]
        · rw [if_neg c2, if_neg (by omega)]
    have upd : ∀ D2 x, MR D2 91 nl (vup (fun k => if k < j then wnx G (fun k => eng k && !brk k) tn W k else W k) j x) → x = wnx G (fun k => eng k && !brk k) tn W j → MR D2 91 nl (fun k => if k < j + 1 then wnx G (fun k => eng k && !brk k) tn W k else W k) := fun D2 x hx e => by
      refine mr_congr hx (fun i hi => ?_)
      unfold vup
      by_cases c : i = j
      · rw [if_pos c, if_pos (by omega), e, c]
      · rw [if_neg c]
        dsimp only
        by_cases c2 : i < j
        · rw [if_pos c2, if_pos (by omega)]
        · rw [if_neg c2, if_neg (by omega)]
    unfold wX8_step_b141
    rw [vnl]
    refine ⟨m_is h1, if_n (nI_ge hj (by omega)) ⟨A 88, a88.1, a88.2.1, k16 _ a88.2.2, ?_⟩⟩
    rw [v88]
    cases hb : brk j
    · refine fi_p rfl ⟨A 87, a87.1, a87.2.1, k16 _ a87.2.2, ?_⟩
      rw [v87]
      cases he : eng j
      · exact fi_n (by decide) (skip (by rw [he]; rfl))
      · refine fi_p rfl ⟨A 82, a82.1, a82.2.1, k16 _ a82.2.2, ?_⟩
        rw [v82]
        have ha : (eng j && !brk j) = true := by rw [he, hb]; rfl
        have hR1 : MR D1 74 ns tn := mr_other hR (s1.2.2 74 (by decide)) (s1.2.2 75 (by decide))
        have eW : (if j < j then wnx G (fun k => eng k && !brk k) tn W j else W j) = W j := if_neg (Nat.lt_irrefl j)
        refine t_wears (M := wmo G nl j) (B1 := n * wbo G nl j) (B2 := B1) h1 hj (by omega) hf hG.1 r1 hR1 (by rw [eW]; exact hWb) b1 w1 (by omega) (by omega) (fun S14 D14 h14 s14 r14 => ⟨m_is h14, ?_⟩)
        rw [eW] at r14
        have b83 := m_arr h14 523 83 21 16
        have v83 : S14.AI (A 83) (nI j).toNatClampNeg = sec G j := rd_I h14 (al_s (by decide)) (by omega) (by rw [s14.2.1, s1.2.1]; exact g3)
        refine ⟨A 83, b83.1, b83.2.1, k16 _ b83.2.2, ?_⟩
        rw [v83]
        by_cases hp : G j 0 = 112
        · have hsec : sec G j = nI (G j 2) := if_pos hp
          have hs' := hs hp
          have h14' := hG.1
          rw [hsec]
          refine if_n (nI_nm (by omega)) ⟨A 83, b83.1, b83.2.1, k16 _ b83.2.2, ?_⟩
          rw [v83, hsec]
          have hR14 : MR D14 74 ns tn := mr_other hR1 (s14.2.2 74 (by decide)) (s14.2.2 75 (by decide))
          have eW2 : vup (fun k => if k < j then wnx G (fun k => eng k && !brk k) tn W k else W k) j (W j + aq (tn (G j 1))) j = W j + aq (tn (G j 1)) := if_pos rfl
          refine t_wears (M := wmo G nl j) (B1 := n * wbo G nl j + B1) (B2 := B2) h14 hj (by omega) hs' hG.1 r14 hR14 (by rw [eW2]; exact bd_add hWb (bd_abs b1)) (b2 hp) w1 (by omega) (by omega) (fun S23 D23 h23 s23 r23 => ?_)
          rw [eW2] at r23
          unfold wX8_step_b199
          rw [← nI_succ]
          refine hk9 _ _ ⟨rfl, D23, h23, (s1.tr s14).tr s23, upd D23 (W j + aq (tn (G j 1)) + aq (tn (G j 2))) (mr_congr r23 (fun i hi => ?_)) ?_⟩
          · unfold vup
            by_cases c : i = j
            · rw [if_pos c, if_pos c]
            · rw [if_neg c, if_neg c, if_neg c]
          · unfold wnx
            rw [if_pos ha, if_pos hp]
        · have hsec : sec G j = -1 := if_neg hp
          rw [hsec]
          refine if_p rfl ?_
          unfold wX8_step_b199
          rw [← nI_succ]
          refine hk9 _ _ ⟨rfl, D14, h14, s1.tr s14, upd D14 _ r14 ?_⟩
          unfold wnx
          rw [if_pos ha, if_neg hp, Rat.add_zero]
    · exact fi_n (by decide) (skip (by rw [hb]; cases eng j <;> rfl))
  · rintro S1 _ k9 ⟨rfl, D1, h1, s1, r1⟩
    have vnl : S1.FI 544 (A 70) = nI nl := by
      rw [rep_FI h1 544 (by decide) m_al, s1.1]
      exact hnl
    unfold wX8_step_b141
    rw [vnl]
    exact ⟨m_is h1, if_p (nI_le (Nat.le_refl _) (by omega)) (kk S1 D1 h1 s1 (mr_congr r1 (fun i hi => if_pos hi)))⟩
end M9
