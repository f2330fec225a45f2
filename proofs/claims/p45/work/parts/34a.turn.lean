/-! A TURNING OF THE LAW, AND WHAT IT COMPARES: written by wip/p45/gen/own34.py -/
theorem cmp_self (z : Int64) : lg_cmp z z = 0 := by
  unfold lg_cmp
  simp
theorem sz_rg {q : Rat} (h : Sz q) : Rg q.num ∧ Rg (q.den : Int) := by
  have h1 := h.1
  have h2 := h.2
  unfold Rg
  omega
theorem and11 : ((1 : Int32) &&& 1) = 1 := by decide
section TU45
variable {A E : Nat → Nat} {ls : Nat → List Nat} {ns nl nc n : Nat} {G : Nat → Nat → Nat} {P W : Nat → Rat} {mk : Nat → Int} {aact : Nat → Bool} {ol : List Nat} {S : Hp} {D : Dt} {x0 : Nat → Int32} {L9 : Nat} {v13 v14 v15 v16 v19 : Int32}
/-- the wear as the class has it -/
theorem p_cmpW {k670 : KA45} (h : ZA A E ls 5 3 10 n G P W mk aact ol S D) (hW : ∀ l, l < 3 → Fr45 D 507 l (W l)) (kk : k670 S (A 0) 1 (A 500) (A 501) (A 502) (A 503) (A 504) (A 505) (A 506) (A 507) (A 508) (A 509) (v13 + 1)) : it15 (wL_law_b1557 x0 L9 k670) 4 S (A 0) 1 (A 500) (A 501) (A 502) (A 503) (A 504) (A 505) (A 506) (A 507) (A 508) (A 509) v13 0 := by
  refine it15_c (fun j S1 v => v = nI j ∧ S = S1) 3 ?_ ?_ 3 0 rfl 4 (by decide) S 0 ⟨rfl, rfl⟩
  · rintro j hj S1 _ k9 ⟨rfl, rfl⟩ hk9
    have hw := hW j hj
    have e7 := h.J (r := 507) (by decide) (by decide) (by omega) hw.1
    have e8 := h.J (r := 508) (by decide) (by decide) (by omega) hw.2
    have i7 := h.in (r := 507) (by decide) (by decide) rfl hj (by decide)
    have i8 := h.in (r := 508) (by decide) (by decide) rfl hj (by decide)
    unfold wL_law_b1557
    refine if_n (nI_ge (b := 3) hj (by decide)) (o_wornOver h hj ⟨h.is (r := 507) (by decide) (by decide) rfl, i7, ?_⟩)
    rw [e7]
    refine fi_p (cmp_self _) (o_wornUnder h hj ⟨h.is (r := 508) (by decide) (by decide) rfl, i8, ?_⟩)
    rw [e8]
    refine fi_p (cmp_self _) ⟨c_is h.1, o_isBroken h hj (fi_p rfl ?_)⟩
    unfold wL_law_b1608
    rw [and11, ← nI_succ]
    exact hk9 _ _ ⟨rfl, rfl⟩
  · rintro S1 _ k9 ⟨rfl, rfl⟩
    unfold wL_law_b1557
    exact if_p (nI_le (a := 3) (b := 3) (Nat.le_refl _) (by decide)) kk
/-- the places as the class has them -/
theorem p_cmpP {k670 : KA45} (h : ZA A E ls 5 3 10 n G P W mk aact ol S D) (hX : ∀ s, s < 5 → Fr45 D 505 s (P s)) (hW : ∀ l, l < 3 → Fr45 D 507 l (W l)) (kk : k670 S (A 0) 1 (A 500) (A 501) (A 502) (A 503) (A 504) (A 505) (A 506) (A 507) (A 508) (A 509) (v13 + 1)) : wL_law_b1499 x0 L9 k670 S (A 0) (A 500) (A 501) (A 502) (A 503) (A 504) (A 505) (A 506) (A 507) (A 508) (A 509) v13 1 1 := by
  unfold wL_law_b1499
  rw [and11]
  refine it15_c (fun j S1 v => v = nI j ∧ S = S1) 5 ?_ ?_ 5 0 rfl 6 (by decide) S 0 ⟨rfl, rfl⟩
  · rintro j hj S1 _ k9 ⟨rfl, rfl⟩ hk9
    have hx := hX j hj
    have e5 := h.J (r := 505) (by decide) (by decide) (by omega) hx.1
    have e6 := h.J (r := 506) (by decide) (by decide) (by omega) hx.2
    have i5 := h.in (r := 505) (by decide) (by decide) rfl hj (by decide)
    have i6' := h.in (r := 506) (by decide) (by decide) rfl hj (by decide)
    unfold wL_law_b1504
    refine if_n (nI_ge (b := 5) hj (by decide)) (o_placeOver h hj ⟨h.is (r := 505) (by decide) (by decide) rfl, i5, ?_⟩)
    rw [e5]
    refine fi_p (cmp_self _) (o_placeUnder h hj ⟨h.is (r := 506) (by decide) (by decide) rfl, i6', ?_⟩)
    rw [e6]
    refine fi_p (cmp_self _) ?_
    unfold wL_law_b1546
    rw [and11, ← nI_succ]
    exact hk9 _ _ ⟨rfl, rfl⟩
  · rintro S1 _ k9 ⟨rfl, rfl⟩
    unfold wL_law_b1504
    exact if_p (nI_le (a := 5) (b := 5) (Nat.le_refl _) (by decide)) (p_cmpW h hW kk)
/-- how many places are others; then the class turns -/
theorem p_moved {k670 : KA45} {κ a b : Nat → Nat} {inp N : Nat} {Ps tns : Nat → Nat → Rat} {mks : Nat → Nat → Int} (h : ZA A E ls 5 3 12 n G P W mk aact ol S D) (hD : LD45 κ a b D) (hinp : inp < 5) (hd : drv G 3 inp = none) (e14 : v14 = nI inp) (hy : -48 ≤ v15.toInt ∧ v15.toInt ≤ 48) (eN : N = v15.toInt.natAbs) (hn : n + 48 ≤ 300) (sP : ∀ s, Sz (P s)) (sX : ∀ s, Sz (Ps N s))
    (p0 : Ps 0 = P) (m0 : mks 0 = mk) (hsq : Sq G 3 (onL 3) inp (wayOf v15) N Ps tns mks) (hX : ∀ s, s < 5 → Fr45 D 505 s (Ps N s)) (hW : ∀ l, l < 3 → Fr45 D 507 l (Wsq G (onL 3) tns W N l)) (hm : ∀ j, j < 2 → D.AJ 509 j = i6 (mks N j)) (hO : ∀ s, s < 5 → Fr45 D 510 s (P s))
    (kk : ∀ S' A' n' D', ZA A' E ls 5 3 10 n' G (Ps N) (Wsq G (onL 3) tns W N) (mks N) (onL 3) ol S' D' → n' = n + N → SamA 3 10 A A' → LD45 κ a b D' → (∀ s, s < 5 → Fr45 D' 505 s (Ps N s)) → (∀ l, l < 3 → Fr45 D' 507 l (Wsq G (onL 3) tns W N l)) → (∀ j, j < 2 → D'.AJ 509 j = i6 (mks N j)) → k670 S' (A' 0) 1 (A' 500) (A' 501) (A' 502) (A' 503) (A' 504) (A' 505) (A' 506) (A' 507) (A' 508) (A' 509) (v13 + 1)) : ∃ n, it20 (wL_law_b1430 x0 L9 k670) n S (A 0) 1 (A 500) (A 501) (A 502) (A 503) (A 504) (A 505) (A 506) (A 507) (A 508) (A 509) v13 v14 v15 (A 510) (A 511) 0 0 := by
  subst e14
  refine ⟨6, it20_c2 (fun j S1 u v => v = nI j ∧ u = nI (cnt j (fun s => decide (Ps N s ≠ P s))) ∧ S = S1) 5 ?_ ?_ 5 0 rfl 6 (by decide) S 0 0 ⟨rfl, rfl, rfl⟩⟩
  · rintro j hj S1 _ _ k9 ⟨rfl, rfl, rfl⟩ hk9
    have hx := hX j hj
    have ho := hO j hj
    have e5 := h.J (r := 505) (by decide) (by decide) (by omega) hx.1
    have e6 := h.J (r := 506) (by decide) (by decide) (by omega) hx.2
    have e10 := h.J (r := 510) (by decide) (by decide) (by omega) ho.1
    have e11 := h.J (r := 511) (by decide) (by decide) (by omega) ho.2
    have i5 := h.in (r := 505) (by decide) (by decide) rfl hj (by decide)
    have i6' := h.in (r := 506) (by decide) (by decide) rfl hj (by decide)
    have i10 := h.in (r := 510) (by decide) (by decide) rfl hj (by decide)
    have i11 := h.in (r := 511) (by decide) (by decide) rfl hj (by decide)
    obtain ⟨x1, x2⟩ := sz_rg (sX j)
    obtain ⟨y1, y2⟩ := sz_rg (sP j)
    have up : ∀ (d : Nat), d = (if (fun s => decide (Ps N s ≠ P s)) j = true then 1 else 0) → k9 S (A 0) 1 (A 500) (A 501) (A 502) (A 503) (A 504) (A 505) (A 506) (A 507) (A 508) (A 509) v13 (nI inp) v15 (A 510) (A 511) (nI (cnt j (fun s => decide (Ps N s ≠ P s))) + nI d) (nI j + 1) := fun d ed => by
      rw [nI_add, ← nI_succ, ed]
      exact hk9 _ _ _ ⟨rfl, rfl, rfl⟩
    unfold wL_law_b1430
    refine if_n (nI_ge (b := 5) hj (by decide)) ⟨h.is (r := 505) (by decide) (by decide) rfl, i5, h.is (r := 510) (by decide) (by decide) rfl, i10, ?_⟩
    rw [e5, e10]
    by_cases c : (Ps N j).num = (P j).num
    · refine fi_p ((cmp_eq x1 y1).mpr c) ⟨h.is (r := 506) (by decide) (by decide) rfl, i6', h.is (r := 511) (by decide) (by decide) rfl, i11, ?_⟩
      rw [e6, e11]
      by_cases c2 : (Ps N j).den = (P j).den
      · refine fi_p ((cmp_eq x2 y2).mpr (by rw [c2])) ?_
        unfold wL_law_b1471
        exact up 0 (by
          have e : Ps N j = P j := Rat.ext c c2
          exact (if_neg (fun q => (of_decide_eq_true q) e)).symm)
      · refine fi_n (fun q => c2 (Int.ofNat.inj ((cmp_eq x2 y2).mp q))) ?_
        unfold wL_law_b1470 wL_law_b1471
        exact up 1 (by
          have e : Ps N j ≠ P j := fun e => c2 (by rw [e])
          exact (if_pos (decide_eq_true e)).symm)
    · refine fi_n (fun q => c ((cmp_eq x1 y1).mp q)) ?_
      unfold wL_law_b1470 wL_law_b1471
      exact up 1 (by
        have e : Ps N j ≠ P j := fun e => c (by rw [e])
        exact (if_pos (decide_eq_true e)).symm)
  · rintro S1 _ _ k9 ⟨rfl, rfl, rfl⟩
    have hG := h.2.2.1.1.1
    have hL := h.2.2.1.1.2
    have h10 : ZA A E ls 5 3 10 n G P W mk aact ol S D := h.down (by decide)
    unfold wL_law_b1430
    refine if_p (nI_le (a := 5) (b := 5) (Nat.le_refl _) (by decide)) (o_turn4 h10 hinp hy (by omega) hd (fun Ps2 tns2 mks2 S2 D2 e0 em sq2 h2 kp => ?_))
    rw [← eN] at sq2 h2 ⊢
    have one := sq_one hG hL hsq sq2 (e0.trans p0.symm) (em.trans m0.symm)
    obtain ⟨o1, o2, -⟩ := one N (Nat.le_refl _)
    have o3 : Wsq G (onL 3) tns2 W N = Wsq G (onL 3) tns W N := wsq_one N (fun i hi => (one i (by omega)).2.2 hi)
    rw [o1, o2, o3] at h2
    rw [o1]
    have kp5 : ∀ r, 505 ≤ r → D2.AJ r = D.AJ r := fun r hr => kp.2 r (by omega)
    have hX2 : ∀ s, s < 5 → Fr45 D2 505 s (Ps N s) := fun s hs => (hX s hs).cg (kp5 _ (by decide)) (kp5 _ (by decide))
    have hW2 : ∀ l, l < 3 → Fr45 D2 507 l (Wsq G (onL 3) tns W N l) := fun l hl => (hW l hl).cg (kp5 _ (by decide)) (kp5 _ (by decide))
    refine fi_p rfl (p_cmpP h2 hX2 hW2 (kk S2 A _ D2 h2 rfl (fun _ _ => rfl) (hD.cg (fun r h1 _ => kp.1 r h1)) hX2 hW2 (fun j hj => ?_)))
    rw [kp5 509 (by decide)]
    exact hm j hj
end TU45
