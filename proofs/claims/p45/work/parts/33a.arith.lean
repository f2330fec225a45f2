/-! THE LAW'S ARITHMETIC OVER ITS ARRAYS: written by wip/p45/gen/own33.py -/
/-- a fraction in two arrays, one behind the other -/
def Fr45 (D : Dt) (r i : Nat) (q : Rat) : Prop := D.AJ r i = i6 q.num ∧ D.AJ (r + 1) i = i6 ((q.den : Nat) : Int)
def SamL (X : Nat → Prop) (D D' : Dt) : Prop := D'.AI = D.AI ∧ ∀ r, ¬ X r → D'.AJ r = D.AJ r
theorem SamL.rf {X : Nat → Prop} {D : Dt} : SamL X D D := ⟨rfl, fun _ _ => rfl⟩
theorem SamL.tr {X : Nat → Prop} {D D' D'' : Dt} (h : SamL X D D') (h' : SamL X D' D'') : SamL X D D'' := ⟨h'.1.trans h.1, fun r hr => (h'.2 r hr).trans (h.2 r hr)⟩
theorem SamL.wk {X Y : Nat → Prop} {D D' : Dt} (h : SamL X D D') (hw : ∀ r, X r → Y r) : SamL Y D D' := ⟨h.1, fun r hr => h.2 r (fun q => hr (hw r q))⟩
theorem Fr45.cg {D D' : Dt} {r i : Nat} {q : Rat} (h : Fr45 D r i q) (e1 : D'.AJ r = D.AJ r) (e2 : D'.AJ (r + 1) = D.AJ (r + 1)) : Fr45 D' r i q := ⟨by rw [e1]; exact h.1, by rw [e2]; exact h.2⟩
theorem Fr45.at {D D' : Dt} {r i : Nat} {q : Rat} (h : Fr45 D r i q) (e : D'.AJ r i = D.AJ r i ∧ D'.AJ (r + 1) i = D.AJ (r + 1) i) : Fr45 D' r i q := ⟨e.1.trans h.1, e.2.trans h.2⟩
theorem Fr45.eq {D : Dt} {r i : Nat} {q q' : Rat} (h : Fr45 D r i q) (e : q = q') : Fr45 D r i q' := e ▸ h
/-- what the law's choices are -/
def LD45 (κ a b : Nat → Nat) (D : Dt) : Prop := (∀ k, k < 2 → D.AI 500 k = nI (κ k)) ∧ (∀ k, k < 3 → D.AI 501 k = nI (a k) ∧ D.AI 502 k = nI (b k)) ∧ (D.AI 503 0 = nI 0 ∧ D.AI 503 1 = nI 1 ∧ D.AI 503 2 = nI 1) ∧ D.AI 504 0 = nI 1 ∧ D.AI 504 1 = nI 2
theorem LD45.cg {κ a b : Nat → Nat} {D D' : Dt} (h : LD45 κ a b D) (e : ∀ r, 500 ≤ r → r < 505 → D'.AI r = D.AI r) : LD45 κ a b D' := by
  obtain ⟨h1, h2, h3, h4⟩ := h
  unfold LD45
  rw [e 500 (by decide) (by decide), e 501 (by decide) (by decide), e 502 (by decide) (by decide), e 503 (by decide) (by decide), e 504 (by decide) (by decide)]
  exact ⟨h1, h2, h3, h4⟩
theorem kd22 : ∀ r, r < 514 → 505 ≤ r → kdr r = 22 := by decide +kernel
theorem nI64n {x : Nat} (h : x < 100000) : (nI x).toInt64 = i6 (x : Int) := by
  rw [i6_32, nI_toInt (by omega)]
abbrev KA45 : Type := Hp → Nat → Int32 → Nat → Nat → Nat → Nat → Nat → Nat → Nat → Nat → Nat → Nat → Int32 → Prop
abbrev KB45 : Type := Hp → Nat → Int32 → Nat → Nat → Nat → Nat → Nat → Nat → Nat → Nat → Nat → Nat → Int32 → Int32 → Int32 → Int32 → Nat → Nat → Int32 → Prop
abbrev KC45 : Type := Hp → Nat → Int32 → Nat → Nat → Nat → Nat → Nat → Nat → Nat → Nat → Nat → Nat → Int32 → Int32 → Int32 → Int32 → Nat → Nat → Int32 → Nat → Nat → Int32 → Prop
abbrev KD45 : Type := Hp → Nat → Int32 → Nat → Nat → Nat → Nat → Nat → Int32 → Prop
theorem z01 : (0 : Int32) + 1 = 1 := by decide
theorem z12 : (1 : Int32) + 1 = 2 := by decide
theorem z23 : (2 : Int32) + 1 = 3 := by decide
theorem z34 : (3 : Int32) + 1 = 4 := by decide
section AR45
variable {A E : Nat → Nat} {ls : Nat → List Nat} {ns nl nc n : Nat} {G : Nat → Nat → Nat} {P W : Nat → Rat} {mk : Nat → Int} {aact : Nat → Bool} {ol : List Nat} {S : Hp} {D : Dt} {x0 : Nat → Int32} {L9 : Nat} {v13 v14 v15 v16 v19 : Int32}
theorem p_redL {Z : Hp → Prop} {r i m : Nat} {N Dn : Int} (h : ZA A E ls ns nl 14 n G P W mk aact ol S D) (hr : 505 ≤ r) (hr2 : r + 1 < 514) (hm1 : ndr r = m) (hm2 : ndr (r + 1) = m) (hi : i < m) (hm5 : m ≤ 5) (hN : Rg N) (h0 : 0 < Dn) (hD : Dn.natAbs < 17000000000000)
    (kk : ∀ S' D', ZA A E ls ns nl 14 n G P W mk aact ol S' D' → SamL (fun x => x = r ∨ x = r + 1) D D' → Fr45 D' r i (Rat.divInt N Dn) → (∀ j, j ≠ i → D'.AJ r j = D.AJ r j ∧ D'.AJ (r + 1) j = D.AJ (r + 1) j) → Z S') :
    wL_common 90 S (i6 N) (i6 Dn) (fun S12 r13 => ¬ r13 = 0 ∧ isA S12 (A r) 22 ∧ vp_in (nI i) (S12.N (A r)) ∧ ∀ S17, S17 = S12.setAJ (A r) (nI i).toNatClampNeg (i6 N / r13) → wL_common 90 S17 (i6 N) (i6 Dn) (fun S18 r19 => ¬ r19 = 0 ∧ isA S18 (A (r + 1)) 22 ∧ vp_in (nI i) (S18.N (A (r + 1))) ∧ ∀ S23, S23 = S18.setAJ (A (r + 1)) (nI i).toNatClampNeg (i6 Dn / r19) → Z S23)) := by
  have hRD : Rg Dn := by unfold Rg; omega
  refine p_commonL hN hD ⟨gcd_ne h0 hRD, h.is (by omega) (by omega) (kd22 r (by omega) hr), h.in (by omega) (by omega) hm1 hi hm5, fun S17 e17 => ?_⟩
  rw [red_up hN h0 hRD, cl_nI (by omega)] at e17
  have h17 := h.setAJ (r := r) i (i6 (Rat.divInt N Dn).num) (by omega) (by omega)
  rw [← e17] at h17
  refine p_commonL hN hD ⟨gcd_ne h0 hRD, h17.is (by omega) (by omega) (kd22 (r + 1) (by omega) (by omega)), h17.in (by omega) (by omega) hm2 hi hm5, fun S23 e23 => ?_⟩
  rw [red_dn h0 hRD, cl_nI (by omega)] at e23
  have h23 := h17.setAJ (r := r + 1) i (i6 ((Rat.divInt N Dn).den : Int)) (by omega) (by omega)
  rw [← e23] at h23
  refine kk S23 _ h23 ⟨rfl, fun x hx => ?_⟩ ⟨?_, ?_⟩ (fun j hj => ⟨?_, ?_⟩)
  · exact (up2_row (fun e => hx (Or.inr e))).trans (up2_row (fun e => hx (Or.inl e)))
  · exact (dtAJ_n (by omega)).trans dtAJ_s
  · exact dtAJ_s
  · exact (dtAJ_n (by omega)).trans (dtAJ_n (by omega))
  · exact (dtAJ_n (by omega)).trans (dtAJ_n (by omega))
/-- places -/
theorem p_places {k670 : KA45} {k747 : KB45} {X t : Nat → Rat} (h : ZA A E ls ns nl 14 n G P W mk aact ol S D) (hX : ∀ s, s < 5 → Fr45 D 505 s (X s)) (ht : ∀ s, s < 5 → Fr45 D 512 s (t s)) (sX : ∀ s, s < 5 → Sz (X s)) (st : ∀ s, s < 5 → Sz (t s))
    (kk : ∀ S' D', ZA A E ls ns nl 14 n G P W mk aact ol S' D' → SamL (fun r => r = 505 ∨ r = 506) D D' → (∀ s, s < 5 → Fr45 D' 505 s (X s + t s)) → k747 S' (A 0) 1 (A 500) (A 501) (A 502) (A 503) (A 504) (A 505) (A 506) (A 507) (A 508) (A 509) v13 v14 v15 v16 (A 510) (A 511) (v19 + 1)) : ∃ n, it23 (wL_law_b1338 x0 L9 k670 k747) n S (A 0) 1 (A 500) (A 501) (A 502) (A 503) (A 504) (A 505) (A 506) (A 507) (A 508) (A 509) v13 v14 v15 v16 (A 510) (A 511) v19 (A 512) (A 513) 0 := by
  refine ⟨6, it23_c (fun j S1 v => v = nI j ∧ ∃ D1, ZA A E ls ns nl 14 n G P W mk aact ol S1 D1 ∧ SamL (fun r => r = 505 ∨ r = 506) D D1 ∧ ∀ s, s < 5 → Fr45 D1 505 s (if s < j then X s + t s else X s)) 5 ?_ ?_ 5 0 rfl 6 (by decide) S 0 ⟨rfl, D, h, SamL.rf, fun s hs => by rw [if_neg (Nat.not_lt_zero s)]; exact hX s hs⟩⟩
  · rintro j hj S1 _ k9 ⟨rfl, D1, h1, s1, f1⟩ hk9
    have hx := f1 j hj
    rw [if_neg (Nat.lt_irrefl j)] at hx
    have hy := (ht j hj).cg (D' := D1) (s1.2 _ (by omega)) (s1.2 _ (by omega))
    obtain ⟨z1, z2, z3, z4, z5, z6⟩ := sz_sum (sX j hj) (st j hj)
    have e5 := h1.J (r := 505) (by decide) (by decide) (by omega) hx.1
    have e6 := h1.J (r := 506) (by decide) (by decide) (by omega) hx.2
    have e12 := h1.J (r := 512) (by decide) (by decide) (by omega) hy.1
    have e13 := h1.J (r := 513) (by decide) (by decide) (by omega) hy.2
    have g : ∀ r, r = 505 ∨ r = 506 ∨ r = 512 ∨ r = 513 → isA S1 (A r) 22 ∧ vp_in (nI j) (S1.N (A r)) := fun r hr => by
      have n5 : ∀ r, r = 505 ∨ r = 506 ∨ r = 512 ∨ r = 513 → ndr r = 5 := by
        rintro r (rfl | rfl | rfl | rfl) <;> rfl
      exact ⟨h1.is (by omega) (by omega) (kd22 r (by omega) (by omega)), h1.in (by omega) (by omega) (n5 r hr) hj (by decide)⟩
    unfold wL_law_b1338
    refine if_n (nI_ge (b := 5) hj (by decide)) ⟨(g 505 (by omega)).1, (g 505 (by omega)).2, (g 513 (by omega)).1, (g 513 (by omega)).2, (g 512 (by omega)).1, (g 512 (by omega)).2, (g 506 (by omega)).1, (g 506 (by omega)).2, (g 506 (by omega)).2, (g 513 (by omega)).2, ?_⟩
    rw [e5, e6, e12, e13, i6_mul (X j).num ((t j).den : Int), i6_mul (t j).num ((X j).den : Int), i6_add, i6_mul ((X j).den : Int) ((t j).den : Int)]
    refine p_redL (r := 505) (m := 5) h1 (by decide) (by decide) rfl rfl hj (by decide) z3 z5 z6 (fun S2 D2 h2 s2 f2 o2 => ?_)
    rw [sum_q] at f2
    rw [← nI_succ]
    refine hk9 _ _ ⟨rfl, D2, h2, s1.tr s2, fun s hs => ?_⟩
    by_cases c : s = j
    · rw [c, if_pos (Nat.lt_succ_self j)]
      exact f2
    · have h9 := (f1 s hs).at (o2 s c)
      by_cases c2 : s < j
      · rw [if_pos c2] at h9
        rw [if_pos (by omega)]
        exact h9
      · rw [if_neg c2] at h9
        rw [if_neg (by omega)]
        exact h9
  · rintro S1 _ k9 ⟨rfl, D1, h1, s1, f1⟩
    unfold wL_law_b1338
    refine if_p (nI_le (a := 5) (b := 5) (Nat.le_refl _) (by decide)) (kk S1 D1 h1 s1 (fun s hs => ?_))
    have h9 := f1 s hs
    rw [if_pos hs] at h9
    exact h9
/-- one source of a link's wear -/
theorem p_wear1 {k670 : KA45} {k747 : KB45} {k1201 : KC45} {w y : Rat} {l f : Nat} {v28 : Int32} (h : ZA A E ls ns nl 14 n G P W mk aact ol S D) (hl : l < 3) (hf : f < 5) (hw : Fr45 D 507 l w) (hy : Fr45 D 512 f y) (sw : Sz w) (sy : Sz y)
    (kk : ∀ S' D', ZA A E ls ns nl 14 n G P W mk aact ol S' D' → SamL (fun r => r = 507 ∨ r = 508) D D' → Fr45 D' 507 l (w + aq y) → (∀ j, j ≠ l → D'.AJ 507 j = D.AJ 507 j ∧ D'.AJ 508 j = D.AJ 508 j) → k1201 S' (A 0) 1 (A 500) (A 501) (A 502) (A 503) (A 504) (A 505) (A 506) (A 507) (A 508) (A 509) v13 v14 v15 v16 (A 510) (A 511) v19 (A 512) (A 513) (v28 + 1)) : wL_law_b1236 x0 L9 k670 k747 k1201 S (A 0) 1 (A 500) (A 501) (A 502) (A 503) (A 504) (A 505) (A 506) (A 507) (A 508) (A 509) v13 v14 v15 v16 (A 510) (A 511) v19 (A 512) (A 513) v28 (nI l) (nI f) := by
  obtain ⟨a1, a2⟩ := aq_num y
  obtain ⟨z1, z2, z3, z4, z5, z6⟩ := sz_sum sw (sz_aq sy)
  rw [a1, a2] at z3
  rw [a2] at z5 z6
  have e7 := h.J (r := 507) (by decide) (by decide) (by omega) hw.1
  have e8 := h.J (r := 508) (by decide) (by decide) (by omega) hw.2
  have e12 := h.J (r := 512) (by decide) (by decide) (by omega) hy.1
  have e13 := h.J (r := 513) (by decide) (by decide) (by omega) hy.2
  have hRy : Rg y.num := by
    have := sy.2
    unfold Rg
    omega
  have g7 := h.is (r := 507) (by decide) (by decide) rfl
  have g8 := h.is (r := 508) (by decide) (by decide) rfl
  have g12 := h.is (r := 512) (by decide) (by decide) rfl
  have g13 := h.is (r := 513) (by decide) (by decide) rfl
  have i7 := h.in (r := 507) (by decide) (by decide) rfl hl (by decide)
  have i8 := h.in (r := 508) (by decide) (by decide) rfl hl (by decide)
  have i12 := h.in (r := 512) (by decide) (by decide) rfl hf (by decide)
  have i13 := h.in (r := 513) (by decide) (by decide) rfl hf (by decide)
  have go : ∀ z0, z0 = i6 ((y.num.natAbs : Nat) : Int) → wL_law_b1262 x0 L9 k670 k747 k1201 S (A 0) 1 (A 500) (A 501) (A 502) (A 503) (A 504) (A 505) (A 506) (A 507) (A 508) (A 509) v13 v14 v15 v16 (A 510) (A 511) v19 (A 512) (A 513) v28 (nI l) (nI f) z0 := fun z0 ez => by
    unfold wL_law_b1262
    refine ⟨g7, i7, g13, i13, g8, i8, i8, i13, ?_⟩
    rw [e7, e8, e13, ez, i6_mul w.num (y.den : Int), i6_mul ((y.num.natAbs : Nat) : Int) (w.den : Int), i6_add, i6_mul (w.den : Int) (y.den : Int)]
    refine p_redL (r := 507) (m := 3) h (by decide) (by decide) rfl rfl hl (by decide) z3 z5 z6 (fun S2 D2 h2 s2 f2 o2 => ?_)
    have es : Rat.divInt (w.num * (y.den : Int) + ((y.num.natAbs : Nat) : Int) * (w.den : Int)) ((w.den : Int) * (y.den : Int)) = w + aq y := by
      have := sum_q w (aq y)
      rw [a1, a2] at this
      exact this
    rw [es] at f2
    exact kk S2 D2 h2 s2 f2 o2
  unfold wL_law_b1236
  rw [e12]
  refine ⟨g12, i12, ?_⟩
  by_cases c : 0 ≤ y.num
  · refine if_p ((cmp_ge hRy rg_0).mpr c) ⟨i12, go _ ?_⟩
    congr 1
    omega
  · refine if_n (fun q => c ((cmp_ge hRy rg_0).mp q)) ⟨i12, go _ ?_⟩
    rw [i6_neg]
    congr 1
    omega
/-- wear -/
theorem p_wearL {k670 : KA45} {k747 : KB45} {κ a b : Nat → Nat} {W0 t : Nat → Rat} {act : Nat → Bool} (h : ZA A E ls ns nl 14 n G P W mk aact ol S D) (hD : LD45 κ a b D) (hH : GH κ a b G) (hK : HK κ a b) (hact : ∀ k, k < 3 → act k = true) (hW : ∀ l, l < 3 → Fr45 D 507 l (W0 l)) (ht : ∀ s, s < 5 → Fr45 D 512 s (t s)) (sW : ∀ l, l < 3 → Sz (W0 l)) (sW1 : Sz (W0 2 + aq (t 1))) (st : ∀ s, s < 5 → Sz (t s))
    (kk : ∀ S' D', ZA A E ls ns nl 14 n G P W mk aact ol S' D' → SamL (fun r => r = 507 ∨ r = 508) D D' → (∀ l, l < 3 → Fr45 D' 507 l (wnx G act t W0 l)) → ∃ n, it23 (wL_law_b1338 x0 L9 k670 k747) n S' (A 0) 1 (A 500) (A 501) (A 502) (A 503) (A 504) (A 505) (A 506) (A 507) (A 508) (A 509) v13 v14 v15 v16 (A 510) (A 511) v19 (A 512) (A 513) 0) : ∃ n, it23 (wL_law_b1201 x0 L9 k670 k747) n S (A 0) 1 (A 500) (A 501) (A 502) (A 503) (A 504) (A 505) (A 506) (A 507) (A 508) (A 509) v13 v14 v15 v16 (A 510) (A 511) v19 (A 512) (A 513) 0 := by
  obtain ⟨hκ, -, ⟨f0, f1, f2⟩, -, p0, p2⟩ := id hH
  have np : ∀ k, k < 2 → G k 0 ≠ 112 := fun k hk => by
    rw [hκ k hk]
    exact (kab_sm (hK.1 k hk)).2.2.2
  have w0 : wnx G act t W0 0 = W0 0 + aq (t 0) := by
    unfold wnx
    rw [if_pos (hact 0 (by decide)), if_neg (np 0 (by decide)), f0, Rat.add_zero]
  have w1 : wnx G act t W0 1 = W0 1 + aq (t 1) := by
    unfold wnx
    rw [if_pos (hact 1 (by decide)), if_neg (np 1 (by decide)), f1, Rat.add_zero]
  have w2 : wnx G act t W0 2 = W0 2 + aq (t 1) + aq (t 3) := by
    unfold wnx
    rw [if_pos (hact 2 (by decide)), if_pos p0, f2, p2]
  refine ⟨5, ?_⟩
  show wL_law_b1201 x0 L9 k670 k747 (it23 (wL_law_b1201 x0 L9 k670 k747) 4) S (A 0) 1 (A 500) (A 501) (A 502) (A 503) (A 504) (A 505) (A 506) (A 507) (A 508) (A 509) v13 v14 v15 v16 (A 510) (A 511) v19 (A 512) (A 513) 0
  unfold wL_law_b1201 wL_law_b1219
  have r0 : S.AI (A 503) ((0 : Int32).toNatClampNeg) = nI 0 := h.I (r := 503) (i := 0) (by decide) (by decide) (by decide) hD.2.2.1.1
  rw [r0]
  refine if_n (by decide) (fi_n (by decide) (fi_n (by decide) ⟨h.is (r := 503) (by decide) (by decide) rfl, h.in (r := 503) (i := 0) (by decide) (by decide) rfl (by decide) (by decide), ?_⟩))
  refine p_wear1 (l := 0) (f := 0) h (by decide) (by decide) (hW 0 (by decide)) (ht 0 (by decide)) (sW 0 (by decide)) (st 0 (by decide)) (fun S1 D1 h1 s1 q1 o1 => ?_)
  rw [z01]
  show wL_law_b1201 x0 L9 k670 k747 (it23 (wL_law_b1201 x0 L9 k670 k747) 3) S1 (A 0) 1 (A 500) (A 501) (A 502) (A 503) (A 504) (A 505) (A 506) (A 507) (A 508) (A 509) v13 v14 v15 v16 (A 510) (A 511) v19 (A 512) (A 513) 1
  have hD1 : LD45 κ a b D1 := hD.cg (fun r _ _ => by rw [s1.1])
  unfold wL_law_b1201 wL_law_b1219
  have r1 : S1.AI (A 503) ((1 : Int32).toNatClampNeg) = nI 1 := h1.I (r := 503) (i := 1) (by decide) (by decide) (by decide) hD1.2.2.1.2.1
  rw [r1]
  refine if_n (by decide) (fi_n (by decide) (fi_n (by decide) ⟨h1.is (r := 503) (by decide) (by decide) rfl, h1.in (r := 503) (i := 1) (by decide) (by decide) rfl (by decide) (by decide), ?_⟩))
  refine p_wear1 (l := 1) (f := 1) h1 (by decide) (by decide) ((hW 1 (by decide)).at (o1 1 (by decide))) ((ht 1 (by decide)).cg (s1.2 _ (by decide)) (s1.2 _ (by decide))) (sW 1 (by decide)) (st 1 (by decide)) (fun S2 D2 h2 s2 q2 o2 => ?_)
  rw [z12]
  show wL_law_b1201 x0 L9 k670 k747 (it23 (wL_law_b1201 x0 L9 k670 k747) 2) S2 (A 0) 1 (A 500) (A 501) (A 502) (A 503) (A 504) (A 505) (A 506) (A 507) (A 508) (A 509) v13 v14 v15 v16 (A 510) (A 511) v19 (A 512) (A 513) 2
  have hD2 : LD45 κ a b D2 := hD1.cg (fun r _ _ => by rw [s2.1])
  unfold wL_law_b1201 wL_law_b1219
  have r2 : S2.AI (A 503) ((2 : Int32).toNatClampNeg) = nI 1 := h2.I (r := 503) (i := 2) (by decide) (by decide) (by decide) hD2.2.2.1.2.2
  rw [r2]
  refine if_n (by decide) (fi_n (by decide) (fi_n (by decide) ⟨h2.is (r := 503) (by decide) (by decide) rfl, h2.in (r := 503) (i := 2) (by decide) (by decide) rfl (by decide) (by decide), ?_⟩))
  refine p_wear1 (l := 2) (f := 1) h2 (by decide) (by decide) (((hW 2 (by decide)).at (o1 2 (by decide))).at (o2 2 (by decide))) (((ht 1 (by decide)).cg (s1.2 _ (by decide)) (s1.2 _ (by decide))).cg (s2.2 _ (by decide)) (s2.2 _ (by decide))) (sW 2 (by decide)) (st 1 (by decide)) (fun S3 D3 h3 s3 q3 o3 => ?_)
  rw [z23]
  show wL_law_b1201 x0 L9 k670 k747 (it23 (wL_law_b1201 x0 L9 k670 k747) 1) S3 (A 0) 1 (A 500) (A 501) (A 502) (A 503) (A 504) (A 505) (A 506) (A 507) (A 508) (A 509) v13 v14 v15 v16 (A 510) (A 511) v19 (A 512) (A 513) 3
  unfold wL_law_b1201 wL_law_b1219
  refine if_n (by decide) (fi_p rfl (fi_p rfl ?_))
  refine p_wear1 (l := 2) (f := 3) h3 (by decide) (by decide) q3 ((((ht 3 (by decide)).cg (s1.2 _ (by decide)) (s1.2 _ (by decide))).cg (s2.2 _ (by decide)) (s2.2 _ (by decide))).cg (s3.2 _ (by decide)) (s3.2 _ (by decide))) sW1 (st 3 (by decide)) (fun S4 D4 h4 s4 q4 o4 => ?_)
  rw [z34]
  show wL_law_b1201 x0 L9 k670 k747 (it23 (wL_law_b1201 x0 L9 k670 k747) 0) S4 (A 0) 1 (A 500) (A 501) (A 502) (A 503) (A 504) (A 505) (A 506) (A 507) (A 508) (A 509) v13 v14 v15 v16 (A 510) (A 511) v19 (A 512) (A 513) 4
  unfold wL_law_b1201
  refine if_p (by decide) (kk S4 D4 h4 (((s1.tr s2).tr s3).tr s4) (fun l hl => ?_))
  rcases (show l = 0 ∨ l = 1 ∨ l = 2 by omega) with rfl | rfl | rfl
  · rw [w0]
    exact ((q1.at (o2 0 (by decide))).at (o3 0 (by decide))).at (o4 0 (by decide))
  · rw [w1]
    exact (q2.at (o3 1 (by decide))).at (o4 1 (by decide))
  · rw [w2]
    exact q4
theorem plan_q {x y : Rat} {a b : Nat} (h : 0 < a + b) : Rat.divInt (x.num * (a : Int) * (y.den : Int) + y.num * (b : Int) * (x.den : Int)) ((x.den : Int) * (y.den : Int) * ((a + b : Nat) : Int)) = x * (a : Rat) / ((a + b : Nat) : Rat) + y * (b : Rat) / ((a + b : Nat) : Rat) := by
  have hx := den_pos x
  have hy := den_pos y
  have hc : (0 : Int) < ((a + b : Nat) : Int) := by omega
  have e1 : x * (a : Rat) / ((a + b : Nat) : Rat) = Rat.divInt (x.num * (a : Int)) ((x.den : Int) * ((a + b : Nat) : Int)) := by
    have := q_unred (q := x) (o := (a : Int)) h
    rw [Int.natCast_mul] at this
    exact this.symm
  have e2 : y * (b : Rat) / ((a + b : Nat) : Rat) = Rat.divInt (y.num * (b : Int)) ((y.den : Int) * ((a + b : Nat) : Int)) := by
    have := q_unred (q := y) (o := (b : Int)) h
    rw [Int.natCast_mul] at this
    exact this.symm
  have m1 : (x.den : Int) * ((a + b : Nat) : Int) ≠ 0 := Int.mul_ne_zero (by omega) (by omega)
  have m2 : (y.den : Int) * ((a + b : Nat) : Int) ≠ 0 := Int.mul_ne_zero (by omega) (by omega)
  have m3 : (x.den : Int) * (y.den : Int) * ((a + b : Nat) : Int) ≠ 0 := Int.mul_ne_zero (Int.mul_ne_zero (by omega) (by omega)) (by omega)
  rw [e1, e2, Rat.divInt_add_divInt _ _ m1 m2, Rat.divInt_eq_divInt_iff m3 (Int.mul_ne_zero m1 m2)]
  generalize ((a + b : Nat) : Int) = c
  generalize (x.den : Int) = xd
  generalize (y.den : Int) = yd
  generalize x.num = xn
  generalize y.num = yn
  generalize (a : Int) = p
  generalize (b : Int) = q
  grind
/-- planets -/
theorem p_planL {k670 : KA45} {k747 : KB45} {κ a b : Nat → Nat} {t : Nat → Rat} (h : ZA A E ls ns nl 14 n G P W mk aact ol S D) (hD : LD45 κ a b D) (hK : HK κ a b) (h1 : Fr45 D 512 1 (t 1)) (h3 : Fr45 D 512 3 (t 3)) (s1 : Sz (t 1)) (s1d : (t 1).den ≤ 100000) (s3 : Sz (t 3)) (e4 : t 4 = t 1 * (a 2 : Rat) / ((a 2 + b 2 : Nat) : Rat) + t 3 * (b 2 : Rat) / ((a 2 + b 2 : Nat) : Rat))
    (kk : ∀ S' D', ZA A E ls ns nl 14 n G P W mk aact ol S' D' → SamL (fun r => r = 512 ∨ r = 513) D D' → Fr45 D' 512 4 (t 4) → (∀ j, j ≠ 4 → D'.AJ 512 j = D.AJ 512 j ∧ D'.AJ 513 j = D.AJ 513 j) → ∃ n, it23 (wL_law_b1201 x0 L9 k670 k747) n S' (A 0) 1 (A 500) (A 501) (A 502) (A 503) (A 504) (A 505) (A 506) (A 507) (A 508) (A 509) v13 v14 v15 v16 (A 510) (A 511) v19 (A 512) (A 513) 0) : wL_law_b1111 x0 L9 k670 k747 S (A 0) 1 (A 500) (A 501) (A 502) (A 503) (A 504) (A 505) (A 506) (A 507) (A 508) (A 509) v13 v14 v15 v16 (A 510) (A 511) v19 (A 512) (A 513) := by
  obtain ⟨-, k1, k2, k3, k4⟩ := hK
  have ra : S.AI (A 501) ((2 : Int32).toNatClampNeg) = nI (a 2) := h.I (r := 501) (i := 2) (by decide) (by decide) (by decide) (hD.2.1 2 (by decide)).1
  have rb : S.AI (A 502) ((2 : Int32).toNatClampNeg) = nI (b 2) := h.I (r := 502) (i := 2) (by decide) (by decide) (by decide) (hD.2.1 2 (by decide)).2
  have o1 : S.AJ (A 512) ((1 : Int32).toNatClampNeg) = i6 (t 1).num := h.J (r := 512) (i := 1) (by decide) (by decide) (by decide) h1.1
  have u1 : S.AJ (A 513) ((1 : Int32).toNatClampNeg) = i6 ((t 1).den : Int) := h.J (r := 513) (i := 1) (by decide) (by decide) (by decide) h1.2
  have o3 : S.AJ (A 512) ((3 : Int32).toNatClampNeg) = i6 (t 3).num := h.J (r := 512) (i := 3) (by decide) (by decide) (by decide) h3.1
  have u3 : S.AJ (A 513) ((3 : Int32).toNatClampNeg) = i6 ((t 3).den : Int) := h.J (r := 513) (i := 3) (by decide) (by decide) (by decide) h3.2
  have eab : nI (a 2) + nI (b 2) = nI (a 2 + b 2) := nI_add _ _
  have g1 := h.is (r := 501) (by decide) (by decide) rfl
  have g2 := h.is (r := 502) (by decide) (by decide) rfl
  have g12 := h.is (r := 512) (by decide) (by decide) rfl
  have g13 := h.is (r := 513) (by decide) (by decide) rfl
  have i1 : vp_in 2 (S.N (A 501)) := h.in (r := 501) (i := 2) (by decide) (by decide) rfl (by decide) (by decide)
  have i2 : vp_in 2 (S.N (A 502)) := h.in (r := 502) (i := 2) (by decide) (by decide) rfl (by decide) (by decide)
  have j1 : vp_in 1 (S.N (A 512)) := h.in (r := 512) (i := 1) (by decide) (by decide) rfl (by decide) (by decide)
  have j3 : vp_in 3 (S.N (A 512)) := h.in (r := 512) (i := 3) (by decide) (by decide) rfl (by decide) (by decide)
  have l1 : vp_in 1 (S.N (A 513)) := h.in (r := 513) (i := 1) (by decide) (by decide) rfl (by decide) (by decide)
  have l3 : vp_in 3 (S.N (A 513)) := h.in (r := 513) (i := 3) (by decide) (by decide) rfl (by decide) (by decide)
  unfold wL_law_b1111
  refine ⟨g1, i1, g2, i2, g12, j1, i1, g13, l3, j3, i2, l1, l1, l3, ?_⟩
  rw [ra, rb, o1, u1, o3, u3, eab, nI64n (by omega), nI64n (by omega), nI64n (by omega), i6_mul (t 1).num (a 2 : Int), i6_mul ((t 1).num * (a 2 : Int)) ((t 3).den : Int), i6_mul (t 3).num (b 2 : Int), i6_mul ((t 3).num * (b 2 : Int)) ((t 1).den : Int), i6_add, i6_mul ((t 1).den : Int) ((t 3).den : Int), i6_mul ((t 1).den * (t 3).den : Int) ((a 2 + b 2 : Nat) : Int)]
  have b1 : ((t 1).num * (a 2 : Int) * ((t 3).den : Int)).natAbs ≤ 1000000000 * 30 * 1000000 := by
    rw [Int.natAbs_mul, Int.natAbs_mul, Int.natAbs_natCast, Int.natAbs_natCast]
    exact Nat.mul_le_mul (Nat.mul_le_mul s1.2 k2) s3.1
  have b3 : ((t 3).num * (b 2 : Int) * ((t 1).den : Int)).natAbs ≤ 1000000000 * 30 * 1000000 := by
    rw [Int.natAbs_mul, Int.natAbs_mul, Int.natAbs_natCast, Int.natAbs_natCast]
    exact Nat.mul_le_mul (Nat.mul_le_mul s3.2 k4) s1.1
  have bd0 : 0 < ((t 1).den : Int) * ((t 3).den : Int) * ((a 2 + b 2 : Nat) : Int) := Int.mul_pos (Int.mul_pos (den_pos _) (den_pos _)) (by omega)
  have bd1 : (((t 1).den : Int) * ((t 3).den : Int) * ((a 2 + b 2 : Nat) : Int)).natAbs ≤ 100000 * 1000000 * 60 := by
    rw [Int.natAbs_mul, Int.natAbs_mul, Int.natAbs_natCast, Int.natAbs_natCast, Int.natAbs_natCast]
    exact Nat.mul_le_mul (Nat.mul_le_mul s1d s3.1) (by omega)
  have hN : Rg ((t 1).num * (a 2 : Int) * ((t 3).den : Int) + (t 3).num * (b 2 : Int) * ((t 1).den : Int)) := by
    generalize (t 1).num * (a 2 : Int) * ((t 3).den : Int) = u at *
    generalize (t 3).num * (b 2 : Int) * ((t 1).den : Int) = v at *
    unfold Rg
    omega
  refine p_redL (r := 512) (i := 4) (m := 5) h (by decide) (by decide) rfl rfl (by decide) (by decide) hN bd0 (by omega) (fun S2 D2 h2 s2 f2 o2 => kk S2 D2 h2 s2 ?_ o2)
  rw [plan_q (by omega), ← e4] at f2
  exact f2
end AR45
