/-! THE REFERENCE: planets -/
section MP9
variable {A E : Nat → Nat} {ls : Nat → List Nat} {nl nc nd : Nat} {S : Hp} {D : Dt} {G : Nat → Nat → Nat}
theorem p_planetsM {Φ : Hp → Int32 → Prop} {ns nlr n : Nat} {lv : Nat → Nat} {P : Nat → Rat} {x1 x2 x3 x4 x5 : Int32} (h : Rep A E ls nlr nc nd S D) (hG : GrOK ns nl G) (hL : Lev nl G lv) (hM : LkM G nl D) (hnl : D.FI 544 70 = nI nl) (hns : D.FI 543 70 = nI ns) (hdr : DrA G nl ns 79 D) (hP : MR D 72 ns P) (hB : BdP G nl n P) (hn : n ≤ 24600)
    (kt1 : ¬ (inR x1 ns ∧ inR x2 ns ∧ inR x3 ns) → ∀ S' D', Rep A E ls nlr nc nd S' D' → Thr 1 D D' → Φ S' 0) (kt2 : inR x1 ns → inR x2 ns → inR x3 ns → ¬ ((6 ≤ x4.toInt ∧ x4.toInt ≤ 30) ∧ 6 ≤ x5.toInt ∧ x5.toInt ≤ 30) → ∀ S' D', Rep A E ls nlr nc nd S' D' → Thr 2 D D' → Φ S' 0)
    (hok : inR x1 ns → inR x2 ns → inR x3 ns → ((6 ≤ x4.toInt ∧ x4.toInt ≤ 30) ∧ 6 ≤ x5.toInt ∧ x5.toInt ≤ 30) → ∃ f s t a b, f < ns ∧ s < ns ∧ t < ns ∧ x1 = nI f ∧ x2 = nI s ∧ x3 = nI t ∧ x4 = nI a ∧ x5 = nI b ∧ kOK (gx G nl (lrow 112 f s t a b)) nl ∧
      (∀ S' D', MNo A E ls nlr nl nc nd ns G D S' D' → ((f = s ∨ f = t ∨ s = t) ∨ drv G nl t ≠ none ∨ ¬ ∀ r, r < ns → dpF (gx G nl (lrow 112 f s t a b)) (nl + 1) 4 r ≤ 3) → Φ S' 0) ∧
      (∀ S' D', MNew A E ls nlr nl nc nd ns G (lrow 112 f s t a b) P D S' D' → ¬ (f = s ∨ f = t ∨ s = t) → drv G nl t = none → (∀ r, r < ns → dpF (gx G nl (lrow 112 f s t a b)) (nl + 1) 4 r ≤ 3) → Φ S' (nI nl))) : wX8_planets S (A 70) x1 x2 x3 x4 x5 Φ := by
  have h14 := hG.1
  have hnl14 := hG.2.1
  have b25 : ¬ (inR x1 ns ∧ inR x2 ns ∧ inR x3 ns) → wX8_planets_b25 (A 70) x1 x2 x3 x4 x5 Φ S (A 70) := fun q => by
    unfold wX8_planets_b25 wX8_planets_b30
    exact ⟨m_is h, t_isThrown true h rfl (fun e => absurd e (by decide)) (fun _ S2 D2 r2 t2 => fi_n (by decide) (kt1 q S2 D2 r2 t2))⟩
  have bf : ∀ {x : Int32}, inRb x ns = false → ¬ inR x ns := fun e q => by
    rw [inRb_t.mpr q] at e
    exact absurd e (by decide)
  unfold wX8_planets wX8_planets_b0
  refine ⟨m_is h, t_isNoShaft h hns h14 ?_⟩
  cases e1 : inRb x1 ns
  · exact fi_n (by decide) (b25 (fun q => bf e1 q.1))
  refine fi_p rfl ⟨m_is h, t_isNoShaft h hns h14 ?_⟩
  cases e2 : inRb x2 ns
  · exact fi_n (by decide) (b25 (fun q => bf e2 q.2.1))
  refine fi_p rfl ⟨m_is h, t_isNoShaft h hns h14 ?_⟩
  cases e3 : inRb x3 ns
  · exact if_n (by decide) (b25 (fun q => bf e3 q.2.2))
  refine if_p rfl ?_
  have i1 := inRb_t.mp e1
  have i2 := inRb_t.mp e2
  have i3 := inRb_t.mp e3
  unfold wX8_planets_b30
  refine ⟨m_is h, t_isThrown false h rfl (fun _ S1 D1 r1 t1 => fi_p rfl ?_) (fun e => absurd e (by decide))⟩
  have b62 : ¬ ((6 ≤ x4.toInt ∧ x4.toInt ≤ 30) ∧ 6 ≤ x5.toInt ∧ x5.toInt ≤ 30) → wX8_planets_b62 (A 70) x1 x2 x3 x4 x5 Φ S1 (A 70) := fun hm => by
    unfold wX8_planets_b62 wX8_planets_b67
    exact ⟨m_is r1, t_isThrown true r1 rfl (fun e => absurd e (by decide)) (fun _ S2 D2 r2 t2 => if_n (by decide) (kt2 i1 i2 i3 hm S2 D2 r2 (t1.tr t2)))⟩
  refine t_isIn ?_
  by_cases c4 : (6 : Int32).toInt ≤ x4.toInt ∧ x4.toInt ≤ (30 : Int32).toInt
  · rw [decide_eq_true c4]
    refine if_n (by decide) (t_isIn ?_)
    by_cases c5 : (6 : Int32).toInt ≤ x5.toInt ∧ x5.toInt ≤ (30 : Int32).toInt
    · rw [decide_eq_true c5]
      refine fi_n (by decide) ?_
      have hm : (6 ≤ x4.toInt ∧ x4.toInt ≤ 30) ∧ 6 ≤ x5.toInt ∧ x5.toInt ≤ 30 := ⟨c4, c5⟩
      unfold wX8_planets_b67
      refine ⟨m_is r1, t_isThrown false r1 rfl (fun _ S2 D2 r2 t2 => if_p rfl ⟨m_is r2, ?_⟩) (fun e => absurd e (by decide))⟩
      have t12 := t1.tr t2
      have v544 : S2.FI 544 (A 70) = nI nl := by
        rw [rep_FI r2 544 (by decide) m_al, t12.FI (by decide)]
        exact hnl
      rw [v544]
      refine fi_n (fun q => absurd ((nI_iff (b := 16) (by omega) (by decide)).mp q) (by omega)) ?_
      obtain ⟨f, s, t, a, b, hf, hs, ht, z1, z2, z3, z4, z5, hk, no, new⟩ := hok i1 i2 i3 hm
      have hsec : sec (gx G nl (lrow 112 f s t a b)) nl = nI s := by
        unfold sec
        rw [gx_s]
        exact if_pos rfl
      have c549 : SamG (fun i r => (i = 544 ∨ i = 549) ∧ r = 70) (fun r => r = 79 ∨ (81 ≤ r ∧ r < 91)) (fun r => 91 ≤ r ∧ r < 94) D D2 := t12.1.wk (fun i r q => ⟨Or.inr q.1, q.2⟩) (fun r q => q.elim) (fun r q => q.elim)
      have hsame : sameG (lrow 112 f s t a b) ↔ (f = s ∨ f = t ∨ s = t) := by
        constructor
        · rintro (q | q | q)
          · exact Or.inr (Or.inl q)
          · exact Or.inr (Or.inr q.2)
          · exact Or.inl q.2.symm
        · rintro (q | q | q)
          · exact Or.inr (Or.inr ⟨rfl, q.symm⟩)
          · exact Or.inl q
          · exact Or.inr (Or.inl ⟨rfl, q⟩)
      have := p_addM (Φ := Φ) (g := lrow 112 f s t a b) (n := n) (P := P) r2 hG hL (lkM_cg hM (fun r _ _ => by rw [t12.AI])) (by rw [t12.FI (by decide)]; exact hnl) (by rw [t12.FI (by decide)]; exact hns) (drA_cg hdr (by rw [t12.AI])) (mr_other hP (by rw [t12.AJ]) (by rw [t12.AJ])) hB hn hk hf (fun _ => hs) ht (fun S' D' w q => no S' D' ⟨w.1, (t12.1.wk (fun i r q => ⟨Or.inr q.1, q.2⟩) (fun r q => q.elim) (fun r q => q.elim)).tr w.2.1, w.2.2.1, w.2.2.2.1, w.2.2.2.2⟩ (q.imp hsame.mp (fun z => z))) (fun S' D' w q1 q2 q3 => new S' D' ?_ (fun z => q1 (hsame.mpr z)) q2 q3)
      · rw [z1, z2, z3, z4, z5]
        unfold wX8_planets_b90
        rw [hsec] at this
        exact ⟨m_is r2, this⟩
      · obtain ⟨w1, w2, w3, w4, w5, w6, w7, w8, w9, w10, w11, w12, w13⟩ := w
        rw [t12.AI] at w7 w8 w9 w10
        rw [t12.AJ] at w11 w12 w13
        exact ⟨w1, c549.tr w2, w3, w4, w5, w6, w7, w8, w9, w10, w11, w12, w13⟩
    · rw [decide_eq_false c5]
      exact fi_p rfl (b62 (fun q => c5 q.2))
  · rw [decide_eq_false c4]
    exact if_p rfl (b62 (fun q => c4 q.1))
end MP9
