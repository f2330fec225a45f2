/-! THE LAW'S TWO LINKS IN A STEP: written by wip/p45/gen/own33b.py -/
theorem fl_div {N Dn : Int} (t : Int) (h : 0 < Dn) : fl t (Rat.divInt N Dn) = t * N / Dn := by
  rw [fl_eq, Rat.divInt_eq_div, Rat.div_def, ← Rat.mul_assoc, ← Rat.intCast_mul, ← Rat.div_def, ← Rat.divInt_eq_div, q_floor _ h]
theorem sz_sum2 {x y : Rat} (hx : Sz x) (hy : Sz y) : (x.num * (y.den : Int) + y.num * (x.den : Int)).natAbs ≤ 2000000000000000 := by
  have a1 : (x.num * (y.den : Int)).natAbs ≤ 1000000000 * 1000000 := by
    rw [Int.natAbs_mul, Int.natAbs_natCast]
    exact Nat.mul_le_mul hx.2 hy.1
  have a2 : (y.num * (x.den : Int)).natAbs ≤ 1000000000 * 1000000 := by
    rw [Int.natAbs_mul, Int.natAbs_natCast]
    exact Nat.mul_le_mul hy.2 hx.1
  generalize x.num * (y.den : Int) = u at *
  generalize y.num * (x.den : Int) = v at *
  omega
theorem ediv_le (N : Int) {Dn : Int} (h : 0 < Dn) : (N / Dn).natAbs ≤ N.natAbs := Int.natAbs_ediv_le_natAbs N Dn
theorem lit_n {x c : Nat} (hx : x < 200) (hc : c < 200) : nI x = nI c ↔ x = c := nI_iff (by omega) (by omega)
section LK45
variable {A E : Nat → Nat} {ls : Nat → List Nat} {ns nl nc n : Nat} {G : Nat → Nat → Nat} {P W : Nat → Rat} {mk : Nat → Int} {aact : Nat → Bool} {ol : List Nat} {S : Hp} {D : Dt} {x0 : Nat → Int32} {L9 : Nat} {v13 v14 v15 v16 v19 : Int32}
theorem p_b1070 {k670 : KA45} {k747 : KB45} {k806 : KC45} {κ a b : Nat → Nat} {j : Nat} {N Dn : Int} (h : ZA A E ls ns nl 14 n G P W mk aact ol S D) (hD : LD45 κ a b D) (hj : j < 2) (hN : Rg N) (h0 : 0 < Dn) (hDn : Dn.natAbs < 17000000000000)
    (kk : ∀ S' D', ZA A E ls ns nl 14 n G P W mk aact ol S' D' → SamL (fun x => x = 512 ∨ x = 513) D D' → Fr45 D' 512 (j + 1) (Rat.divInt N Dn) → (∀ i, i ≠ j + 1 → D'.AJ 512 i = D.AJ 512 i ∧ D'.AJ 513 i = D.AJ 513 i) → k806 S' (A 0) 1 (A 500) (A 501) (A 502) (A 503) (A 504) (A 505) (A 506) (A 507) (A 508) (A 509) v13 v14 v15 v16 (A 510) (A 511) v19 (A 512) (A 513) (nI j + 1)) : wL_law_b1070 x0 L9 k670 k747 k806 S (A 0) 1 (A 500) (A 501) (A 502) (A 503) (A 504) (A 505) (A 506) (A 507) (A 508) (A 509) v13 v14 v15 v16 (A 510) (A 511) v19 (A 512) (A 513) (nI j) (i6 N) (i6 Dn) := by
  have hRD : Rg Dn := by unfold Rg; omega
  have to : ∀ j, j < 2 → D.AI 504 j = nI (j + 1) := fun j hj => by
    rcases (show j = 0 ∨ j = 1 by omega) with rfl | rfl
    · exact hD.2.2.2.1
    · exact hD.2.2.2.2
  have r7 := h.I (r := 504) (by decide) (by decide) (by omega) (to j hj)
  have g7 := h.is (r := 504) (by decide) (by decide) rfl
  have i7 := h.in (r := 504) (by decide) (by decide) rfl (show j < 3 by omega) (by decide)
  have g12 := h.is (r := 512) (by decide) (by decide) rfl
  have i12 := h.in (r := 512) (by decide) (by decide) rfl (show j + 1 < 5 by omega) (by decide)
  unfold wL_law_b1070
  refine p_commonL hN hDn ⟨g7, i7, gcd_ne h0 hRD, g12, by rw [r7]; exact i12, fun S8 e8 => ?_⟩
  rw [r7, red_up hN h0 hRD, cl_nI (by omega)] at e8
  have h8 := h.setAJ (r := 512) (j + 1) (i6 (Rat.divInt N Dn).num) (by decide) (by decide)
  rw [← e8] at h8
  have r8 := h8.I (r := 504) (by decide) (by decide) (by omega) (to j hj)
  have i8 := h8.in (r := 504) (by decide) (by decide) rfl (show j < 3 by omega) (by decide)
  have g13 := h8.is (r := 513) (by decide) (by decide) rfl
  have i13 := h8.in (r := 513) (by decide) (by decide) rfl (show j + 1 < 5 by omega) (by decide)
  refine ⟨i8, gcd_ne h0 hRD, g13, by rw [r8]; exact i13, fun S13 e13 => ?_⟩
  rw [r8, red_dn h0 hRD, cl_nI (by omega)] at e13
  have h13 := h8.setAJ (r := 513) (j + 1) (i6 ((Rat.divInt N Dn).den : Int)) (by decide) (by decide)
  rw [← e13] at h13
  refine kk S13 _ h13 ⟨rfl, fun x hx => ?_⟩ ⟨?_, ?_⟩ (fun i hi => ⟨?_, ?_⟩)
  · exact (up2_row (fun e => hx (Or.inr e))).trans (up2_row (fun e => hx (Or.inl e)))
  · exact (dtAJ_n (by omega)).trans dtAJ_s
  · exact dtAJ_s
  · exact (dtAJ_n (by omega)).trans (dtAJ_n (by omega))
  · exact (dtAJ_n (by omega)).trans (dtAJ_n (by omega))
/-- a link's share of a step -/
theorem p_linkL {k670 : KA45} {k747 : KB45} {k806 : KC45} {κ a b : Nat → Nat} {X t : Nat → Rat} {m m' : Nat → Int} {j : Nat} (h : ZA A E ls ns nl 14 n G P W mk aact ol S D) (hD : LD45 κ a b D) (hH : GH κ a b G) (hK : HK κ a b) (hj : j < 2) (e14 : v14 = 0) (hX : Fr45 D 505 j (X j)) (ht : Fr45 D 512 j (t j)) (sX : Sz (X j)) (st : Sz (t j)) (hm : ∀ i, i < 2 → D.AJ 509 i = i6 (m i)) (hm4 : (m j).natAbs ≤ 4000000000000000000)
    (et : t (j + 1) = ctr G j t X (m j)) (em : m' j = mkn G j (X j + t j) (m j))
    (kk : ∀ S' D', ZA A E ls ns nl 14 n G P W mk aact ol S' D' → SamL (fun x => x = 509 ∨ x = 512 ∨ x = 513) D D' → Fr45 D' 512 (j + 1) (t (j + 1)) → (∀ i, i ≠ j + 1 → D'.AJ 512 i = D.AJ 512 i ∧ D'.AJ 513 i = D.AJ 513 i) → D'.AJ 509 j = i6 (m' j) → (∀ i, i ≠ j → D'.AJ 509 i = D.AJ 509 i) → k806 S' (A 0) 1 (A 500) (A 501) (A 502) (A 503) (A 504) (A 505) (A 506) (A 507) (A 508) (A 509) v13 v14 v15 v16 (A 510) (A 511) v19 (A 512) (A 513) (nI j + 1)) : wL_law_b806 x0 L9 k670 k747 k806 S (A 0) 1 (A 500) (A 501) (A 502) (A 503) (A 504) (A 505) (A 506) (A 507) (A 508) (A 509) v13 v14 v15 v16 (A 510) (A 511) v19 (A 512) (A 513) (nI j) := by
  have hκ := hK.1 j hj
  obtain ⟨q1, q2, q3, q112⟩ := kab_sm hκ
  have g0 : G j 0 = κ j := hH.1 j hj
  obtain ⟨g4, g5⟩ := hH.2.1 j (by omega)
  have g1 : G j 1 = j := by
    rcases (show j = 0 ∨ j = 1 by omega) with rfl | rfl
    · exact hH.2.2.1.1
    · exact hH.2.2.1.2.1
  have fr : ∀ j, j < 2 → D.AI 503 j = nI j := fun j hj => by
    rcases (show j = 0 ∨ j = 1 by omega) with rfl | rfl
    · exact hD.2.2.1.1
    · exact hD.2.2.1.2.1
  have r6 := h.I (r := 503) (by decide) (by decide) (by omega) (fr j hj)
  have r3 := h.I (r := 500) (by decide) (by decide) (by omega) (hD.1 j hj)
  have r4 := h.I (r := 501) (by decide) (by decide) (by omega) (hD.2.1 j (by omega)).1
  have r5 := h.I (r := 502) (by decide) (by decide) (by omega) (hD.2.1 j (by omega)).2
  have y5 := h.J (r := 505) (by decide) (by decide) (by omega) hX.1
  have y6 := h.J (r := 506) (by decide) (by decide) (by omega) hX.2
  have y9 := h.J (r := 509) (by decide) (by decide) (by omega) (hm j hj)
  have y12 := h.J (r := 512) (by decide) (by decide) (by omega) ht.1
  have y13 := h.J (r := 513) (by decide) (by decide) (by omega) ht.2
  have gs3 := h.is (r := 500) (by decide) (by decide) rfl
  have gs4 := h.is (r := 501) (by decide) (by decide) rfl
  have gs5 := h.is (r := 502) (by decide) (by decide) rfl
  have gs6 := h.is (r := 503) (by decide) (by decide) rfl
  have gs8 := h.is (r := 505) (by decide) (by decide) rfl
  have gs9 := h.is (r := 506) (by decide) (by decide) rfl
  have gsm := h.is (r := 509) (by decide) (by decide) rfl
  have gs20 := h.is (r := 512) (by decide) (by decide) rfl
  have gs21 := h.is (r := 513) (by decide) (by decide) rfl
  have is3 := h.in (r := 500) (by decide) (by decide) rfl (show j < 4 by omega) (by decide)
  have is4 := h.in (r := 501) (by decide) (by decide) rfl (show j < 4 by omega) (by decide)
  have is5 := h.in (r := 502) (by decide) (by decide) rfl (show j < 4 by omega) (by decide)
  have is6 := h.in (r := 503) (by decide) (by decide) rfl (show j < 3 by omega) (by decide)
  have is8 := h.in (r := 505) (by decide) (by decide) rfl (show j < 5 by omega) (by decide)
  have is9 := h.in (r := 506) (by decide) (by decide) rfl (show j < 5 by omega) (by decide)
  have ism := h.in (r := 509) (by decide) (by decide) rfl (show j < 2 by omega) (by decide)
  have is20 := h.in (r := 512) (by decide) (by decide) rfl (show j < 5 by omega) (by decide)
  have is21 := h.in (r := 513) (by decide) (by decide) rfl (show j < 5 by omega) (by decide)
  obtain ⟨z1, z2, z3, z4, z5, z6⟩ := sz_sum sX st
  have zn := sz_sum2 sX st
  have esum := sum_q (X j) (t j)
  have xd := den_pos (X j)
  have td := den_pos (t j)
  have c3 : ∀ c, c < 200 → (nI (κ j) = nI c ↔ κ j = c) := fun c hc => lit_n q1 hc
  -- no ratchet: behind the switch
  have tail : ∀ N Dn : Int, κ j ≠ 114 → Rg N → 0 < Dn → Dn.natAbs < 17000000000000 → Rat.divInt N Dn = t (j + 1) → wL_law_b994 x0 L9 k670 k747 k806 S (A 0) 1 (A 500) (A 501) (A 502) (A 503) (A 504) (A 505) (A 506) (A 507) (A 508) (A 509) v13 v14 v15 v16 (A 510) (A 511) v19 (A 512) (A 513) (nI j) (i6 ((X j).num * ((t j).den : Int) + (t j).num * ((X j).den : Int))) (i6 (((X j).den : Int) * ((t j).den : Int))) (i6 ((a j : Nat) : Int)) (i6 N) (i6 Dn) := fun N Dn n114 hN h0 hDn eq => by
    unfold wL_law_b994
    rw [r3]
    refine ⟨gs3, is3, fi_n (fun q => n114 ((c3 114 (by decide)).mp q)) ?_⟩
    refine p_b1070 h hD hj hN h0 hDn (fun S1 D1 h1 s1 f1 o1 => kk S1 D1 h1 (s1.wk (fun r hr => by omega)) (f1.eq eq) o1 ?_ (fun i _ => by rw [s1.2 509 (by decide)]))
    have e : m' j = m j := by
      rw [em]
      unfold mkn
      rw [if_neg (by rw [g0]; exact n114)]
    rw [s1.2 509 (by decide), e]
    exact hm j hj
  have noV : ∀ N Dn : Int, κ j ≠ 118 → κ j ≠ 114 → Rg N → 0 < Dn → Dn.natAbs < 17000000000000 → Rat.divInt N Dn = t (j + 1) → wL_law_b956 x0 L9 k670 k747 k806 S (A 0) 1 (A 500) (A 501) (A 502) (A 503) (A 504) (A 505) (A 506) (A 507) (A 508) (A 509) v13 v14 v15 v16 (A 510) (A 511) v19 (A 512) (A 513) (nI j) (nI j) (i6 ((X j).num * ((t j).den : Int) + (t j).num * ((X j).den : Int))) (i6 (((X j).den : Int) * ((t j).den : Int))) (i6 ((a j : Nat) : Int)) (i6 N) (i6 Dn) := fun N Dn n118 n114 hN h0 hDn eq => by
    unfold wL_law_b956
    rw [r3]
    exact ⟨gs3, is3, fi_n (fun q => n118 ((c3 118 (by decide)).mp q)) (tail N Dn n114 hN h0 hDn eq)⟩
  have gears : ∀ N : Int, κ j = 103 ∨ κ j = 105 → N.natAbs ≤ 1000000000 * 30 → Rat.divInt N (((t j).den * b j : Nat) : Int) = t (j + 1) → wL_law_b936 x0 L9 k670 k747 k806 S (A 0) 1 (A 500) (A 501) (A 502) (A 503) (A 504) (A 505) (A 506) (A 507) (A 508) (A 509) v13 v14 v15 v16 (A 510) (A 511) v19 (A 512) (A 513) (nI j) (nI j) (i6 ((X j).num * ((t j).den : Int) + (t j).num * ((X j).den : Int))) (i6 (((X j).den : Int) * ((t j).den : Int))) (i6 ((a j : Nat) : Int)) (i6 N) := fun N hk hN eq => by
    have hb : 6 ≤ b j ∧ b j ≤ 30 := by
      unfold KAB at hκ
      omega
    unfold wL_law_b936
    rw [r5, y13, nI64n (by omega), i6_mul ((t j).den : Int) (b j : Int)]
    refine ⟨gs21, is21, gs5, is5, ?_⟩
    have e : ((t j).den : Int) * (b j : Int) = (((t j).den * b j : Nat) : Int) := (Int.natCast_mul _ _).symm
    have p0 : 0 < (t j).den * b j := Nat.mul_pos (by omega) (by omega)
    have p1 : (t j).den * b j ≤ 1000000 * 30 := Nat.mul_le_mul st.1 hb.2
    rw [e]
    exact noV N _ (by omega) (by omega) (by unfold Rg; omega) (by omega) (by omega) eq
  have xa : ((t j).num * (a j : Int)).natAbs ≤ 1000000000 * 30 ∨ 30 < a j := by
    by_cases c : a j ≤ 30
    · refine Or.inl ?_
      rw [Int.natAbs_mul, Int.natAbs_natCast]
      exact Nat.mul_le_mul st.2 c
    · exact Or.inr (by omega)
  have a30 : a j ≤ 30 := by
    unfold KAB at hκ
    omega
  have sw : ∀ N : Int, (κ j = 103 → N = -(t j).num * (a j : Int)) → (κ j = 105 → N = (t j).num * (a j : Int)) → (κ j ≠ 103 → κ j ≠ 105 → N = (t j).num) → wL_law_b916 x0 L9 k670 k747 k806 S (A 0) 1 (A 500) (A 501) (A 502) (A 503) (A 504) (A 505) (A 506) (A 507) (A 508) (A 509) v13 v14 v15 v16 (A 510) (A 511) v19 (A 512) (A 513) (nI j) (nI j) (i6 ((X j).num * ((t j).den : Int) + (t j).num * ((X j).den : Int))) (i6 (((X j).den : Int) * ((t j).den : Int))) (i6 ((a j : Nat) : Int)) (i6 N) := fun N n3 n5 nn => by
    unfold wL_law_b916
    rw [r3]
    refine ⟨gs3, is3, ?_⟩
    by_cases k3 : κ j = 103
    · refine if_p ((c3 103 (by decide)).mpr k3) (gears N (Or.inl k3) ?_ ?_)
      · rw [n3 k3, Int.neg_mul, Int.natAbs_neg]
        omega
      · have hb : 0 < b j := by
          unfold KAB at hκ
          omega
        rw [et, ctr_g (by rw [g0]; exact k3), g1, g4, g5, n3 k3, Int.neg_mul, ← Rat.neg_divInt, q_unred hb]
        rfl
    · refine if_n (fun q => k3 ((c3 103 (by decide)).mp q)) ⟨is3, ?_⟩
      by_cases k5 : κ j = 105
      · refine fi_p ((c3 105 (by decide)).mpr k5) (gears N (Or.inr k5) ?_ ?_)
        · rw [n5 k5]
          omega
        · have hb : 0 < b j := by
            unfold KAB at hκ
            omega
          rw [et, ctr_i (by rw [g0]; exact k5), g1, g4, g5, n5 k5, q_unred hb]
          rfl
      · refine fi_n (fun q => k5 ((c3 105 (by decide)).mp q)) ⟨gs21, is21, ?_⟩
        rw [y13]
        have eN := nn k3 k5
        have hNr : Rg N := by
          rw [eN]
          have := st.2
          unfold Rg
          omega
        by_cases k7 : κ j = 107
        · refine noV N _ (by omega) (by omega) hNr td (by have := st.1; omega) ?_
          rw [eN, q_self, et, ctr_k (by rw [g0]; exact k7), g1]
        · have ha : 3 ≤ a j := by
            unfold KAB at hκ
            omega
          have flv : fl ((1 : Nat) : Int) (X j + t j) = ((X j).num * ((t j).den : Int) + (t j).num * ((X j).den : Int)) / (((X j).den : Int) * ((t j).den : Int)) := by
            rw [← esum, fl_div _ z5]
            congr 1
            omega
          have flp : fl ((1 : Nat) : Int) (X j) = (X j).num / ((X j).den : Int) := by
            unfold fl
            congr 1
            omega
          by_cases k8 : κ j = 118
          · unfold wL_law_b956
            rw [r3]
            have hXr : Rg (X j).num := by
              have := sX.2
              unfold Rg
              omega
            have hXd : Rg ((X j).den : Int) := by
              have := sX.1
              unfold Rg
              omega
            refine ⟨gs3, is3, fi_p ((c3 118 (by decide)).mpr k8) (p_floorDiv z3 z4 z5 ⟨gs8, is8, gs9, is9, ?_⟩)⟩
            rw [y5, y6]
            refine p_floorDiv hXr hXd xd ?_
            rw [i6_sub]
            have l1 := ediv_le ((X j).num * ((t j).den : Int) + (t j).num * ((X j).den : Int)) z5
            have l2 := ediv_le (X j).num xd
            have l3 := sX.2
            refine tail _ _ (by omega) (by unfold Rg; omega) (by omega) (by omega) ?_
            rw [et, ctr_v (by rw [g0]; exact k8), g1, g4, Rat.divInt_eq_div, ← flv, ← flp]
            rfl
          · have k4 : κ j = 114 := by
              unfold KAB at hκ
              omega
            have a24 : a j ≤ 24 := by
              unfold KAB at hκ
              omega
            have fla : fl ((a j : Nat) : Int) (X j + t j) = ((a j : Nat) : Int) * ((X j).num * ((t j).den : Int) + (t j).num * ((X j).den : Int)) / (((X j).den : Int) * ((t j).den : Int)) := by
              rw [← esum, fl_div _ z5]
            have nl1 : (((a j : Nat) : Int) * ((X j).num * ((t j).den : Int) + (t j).num * ((X j).den : Int))).natAbs ≤ 24 * 2000000000000000 := by
              rw [Int.natAbs_mul, Int.natAbs_natCast]
              exact Nat.mul_le_mul a24 zn
            have nl2 := ediv_le (((a j : Nat) : Int) * ((X j).num * ((t j).den : Int) + (t j).num * ((X j).den : Int))) z5
            rw [← fla] at nl2
            have et2 := et
            rw [ctr_r (by rw [g0]; exact k4), g1, g4] at et2
            have em2 := em
            unfold mkn at em2
            rw [if_pos (by rw [g0]; exact k4), g4] at em2
            unfold wL_law_b956
            rw [r3]
            refine ⟨gs3, is3, fi_n (fun q => k8 ((c3 118 (by decide)).mp q)) ?_⟩
            unfold wL_law_b994
            rw [r3, i6_mul ((a j : Nat) : Int) ((X j).num * ((t j).den : Int) + (t j).num * ((X j).den : Int))]
            refine ⟨gs3, is3, fi_p ((c3 114 (by decide)).mpr k4) (p_floorDiv (by unfold Rg; omega) z4 z5 ⟨gsm, ism, ?_⟩)⟩
            rw [← fla, y9]
            generalize fl ((a j : Nat) : Int) (X j + t j) = now at *
            have rn9 : Rg now := by unfold Rg; omega
            have rm9 : Rg (m j) := by unfold Rg; omega
            -- the mark and the share, as they come
            have fin : ∀ (z w : Int), z = max 0 (now - m j) → w = max (m j) now → wL_law_b1069 x0 L9 k670 k747 k806 S (A 0) 1 (A 500) (A 501) (A 502) (A 503) (A 504) (A 505) (A 506) (A 507) (A 508) (A 509) v13 v14 v15 v16 (A 510) (A 511) v19 (A 512) (A 513) (nI j) (i6 z) (i6 ((a j : Nat) : Int)) (A 509) (nI j) (i6 w) := fun z w ez ew => by
              unfold wL_law_b1069
              refine ⟨gsm, ism, fun S3 e3 => ?_⟩
              rw [cl_nI (by omega)] at e3
              have h3 := h.setAJ (r := 509) j (i6 w) (by decide) (by decide)
              rw [← e3] at h3
              have sm : SamL (fun x => x = 509) D (D.setAJ 509 j (i6 w)) := ⟨rfl, fun x hx => up2_row hx⟩
              refine p_b1070 h3 (hD.cg (fun r _ _ => by rw [sm.1])) hj (by rw [ez]; unfold Rg; omega) (by omega) (by omega) (fun S1 D1 h1 s1 f1 o1 => kk S1 D1 h1 ((sm.wk (fun r hr => Or.inl hr)).tr (s1.wk (fun r hr => by omega))) (f1.eq ?_) (fun i hi => ⟨(o1 i hi).1.trans (by rw [sm.2 512 (by decide)]), (o1 i hi).2.trans (by rw [sm.2 513 (by decide)])⟩) ?_ (fun i hi => ?_))
              · rw [et2, ez, Rat.divInt_eq_div]
                rfl
              · rw [s1.2 509 (by decide), em2, ← ew]
                exact dtAJ_s
              · rw [s1.2 509 (by decide)]
                exact dtAJ_n (fun q => hi q.2)
            by_cases cz : now ≤ m j
            · refine if_p ((cmp_le rn9 rm9).mpr cz) ?_
              unfold wL_law_b1038
              rw [y9]
              refine ⟨gsm, ism, if_p ((cmp_le rn9 rm9).mpr cz) ⟨ism, ?_⟩⟩
              rw [i6_0]
              exact fin 0 (m j) (by omega) (by omega)
            · refine if_n (fun q => cz ((cmp_le rn9 rm9).mp q)) ⟨ism, ?_⟩
              unfold wL_law_b1038
              rw [y9, i6_sub]
              refine ⟨gsm, ism, if_n (fun q => cz ((cmp_le rn9 rm9).mp q)) ?_⟩
              exact fin (now - m j) now (by omega) (by omega)
  unfold wL_law_b806
  rw [r3, r4, r6, y5, y6, y12, y13, nI64n (by omega), i6_mul (X j).num ((t j).den : Int), i6_mul (t j).num ((X j).den : Int), i6_add, i6_mul ((X j).den : Int) ((t j).den : Int), i6_neg, i6_mul (-(t j).num) ((a j : Nat) : Int), i6_mul (t j).num ((a j : Nat) : Int)]
  refine if_n (nI_ge (b := 2) hj (by decide)) (fi_p e14 ⟨gs6, is6, gs8, is8, gs21, is21, gs20, is20, gs9, is9, is9, is21, gs4, is4, gs3, is3, ?_⟩)
  by_cases k3 : κ j = 103
  · exact fi_p ((c3 103 (by decide)).mpr k3) ⟨is20, sw _ (fun _ => rfl) (fun q => by omega) (fun q => absurd k3 q)⟩
  · refine fi_n (fun q => k3 ((c3 103 (by decide)).mp q)) ⟨is3, ?_⟩
    by_cases k5 : κ j = 105
    · exact fi_p ((c3 105 (by decide)).mpr k5) ⟨is20, sw _ (fun q => absurd q k3) (fun _ => rfl) (fun _ q => absurd k5 q)⟩
    · exact fi_n (fun q => k5 ((c3 105 (by decide)).mp q)) ⟨is20, sw _ (fun q => absurd q k3) (fun q => absurd q k5) (fun _ _ => rfl)⟩
end LK45
