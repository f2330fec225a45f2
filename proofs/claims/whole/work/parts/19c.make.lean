/-! WISHES: what a cam is made of -/
theorem nI_mul (a b : Nat) : nI a * nI b = nI (a * b) := (Int32.ofNat_mul a b).symm
def nxF (V : Nat → Nat) : Nat → Nat → Nat
  | 0, i => i
  | n + 1, i => if V i ≠ 0 then i else nxF V n (i + 1)
def nx (V : Nat → Nat) (i : Nat) : Nat := nxF V (24 - i) i
def NX (V : Nat → Nat) (i q : Nat) : Prop := i ≤ q ∧ q ≤ 24 ∧ (∀ t, i ≤ t → t < q → V t = 0) ∧ (q < 24 → V q ≠ 0)
theorem nxF_spec (V : Nat → Nat) : ∀ n i, i + n = 24 → NX V i (nxF V n i)
  | 0, i, h => ⟨Nat.le_refl _, by show i ≤ 24; omega, fun t h1 h2 => absurd (show t < i from h2) (by omega), fun q => absurd (show i < 24 from q) (by omega)⟩
  | n + 1, i, h => by
    unfold nxF
    by_cases c : V i ≠ 0
    · rw [if_pos c]
      exact ⟨Nat.le_refl _, by omega, fun t h1 h2 => absurd h2 (by omega), fun _ => c⟩
    · rw [if_neg c]
      obtain ⟨a1, a2, a3, a4⟩ := nxF_spec V n (i + 1) (by omega)
      refine ⟨by omega, a2, fun t h1 h2 => ?_, a4⟩
      by_cases ct : t = i
      · rw [ct]
        exact Decidable.of_not_not c
      · exact a3 t (by omega) h2
theorem nx_spec (V : Nat → Nat) {i : Nat} (h : i ≤ 24) : NX V i (nx V i) := nxF_spec V (24 - i) i (by omega)
theorem nx_uniq {V : Nat → Nat} {i q q' : Nat} (h : NX V i q) (h' : NX V i q') : q = q' := by
  obtain ⟨a1, a2, a3, a4⟩ := h
  obtain ⟨b1, b2, b3, b4⟩ := h'
  rcases Nat.lt_trichotomy q q' with c | c | c
  · exact absurd (b3 q a1 c) (a4 (by omega))
  · exact c
  · exact absurd (a3 q' b1 c) (b4 (by omega))
theorem nx_at {V : Nat → Nat} {i : Nat} (h : i < 24) (hv : V i ≠ 0) : nx V i = i := nx_uniq (nx_spec V (by omega)) ⟨Nat.le_refl _, by omega, fun t h1 h2 => absurd h2 (by omega), fun _ => hv⟩
theorem nx_no {V : Nat → Nat} {i : Nat} (h : i < 24) (hv : V i = 0) : nx V i = nx V (i + 1) := by
  obtain ⟨a1, a2, a3, a4⟩ := nx_spec V (i := i + 1) (by omega)
  refine nx_uniq (nx_spec V (by omega)) ⟨by omega, a2, fun t h1 h2 => ?_, a4⟩
  by_cases ct : t = i
  · rw [ct]
    exact hv
  · exact a3 t (by omega) h2
def rdq (q : Nat) : Nat := if q < 24 then q else 0
def ris (w a b : Nat) : Nat := (if w = 112 then 2 else 1) * ((b : Int) - (a : Int)).natAbs
def gpW (V : Nat → Nat) (w b p : Nat) : Bool := decide (ris w (V p - 1) (V (rdq (nx V (p + 1))) - 1) ≤ b * (nx V (p + 1) - p))
def okW (V : Nat → Nat) (w b : Nat) : Nat → Bool
  | 0 => true
  | j + 1 => okW V w b j && (decide (V j = 0) || gpW V w b j)
theorem okW_s {V : Nat → Nat} {w b j : Nat} : okW V w b (j + 1) = (okW V w b j && (decide (V j = 0) || gpW V w b j)) := rfl
theorem okW_f {V : Nat → Nat} {w b j : Nat} (h : okW V w b j = false) : ∀ n, j ≤ n → okW V w b n = false
  | 0, hn => by
    have : j = 0 := by omega
    rw [this] at h
    exact h
  | n + 1, hn => by
    by_cases c : j = n + 1
    · rw [← c]
      exact h
    · rw [okW_s, okW_f h n (by omega), Bool.false_and]
theorem okW_stay {V : Nat → Nat} {w b l : Nat} : ∀ q, l < q → (∀ t, l < t → t < q → V t = 0) → okW V w b q = okW V w b (l + 1)
  | 0, h, _ => absurd h (by omega)
  | q + 1, h, hz => by
    by_cases c : q = l
    · rw [c]
    · rw [okW_s, hz q (by omega) (by omega), okW_stay q (by omega) (fun t h1 h2 => hz t h1 (by omega)), decide_eq_true rfl, Bool.true_or, Bool.and_true]
def mkCm (V : Nat → Nat) (w : Nat) (x : Cm) : Nat → Cm
  | 0 => cmClr x
  | j + 1 => if V j ≠ 0 then cmApp (mkCm V w x j) (nx V (j + 1) - j) (V (rdq (nx V (j + 1))) - 1) w else mkCm V w x j
theorem mkCm_y {V : Nat → Nat} {w j : Nat} {x : Cm} (h : V j ≠ 0) : mkCm V w x (j + 1) = cmApp (mkCm V w x j) (nx V (j + 1) - j) (V (rdq (nx V (j + 1))) - 1) w := if_pos h
theorem mkCm_n {V : Nat → Nat} {w j : Nat} {x : Cm} (h : V j = 0) : mkCm V w x (j + 1) = mkCm V w x j := if_neg (fun q => q h)
theorem mkCm_stay {V : Nat → Nat} {w l : Nat} {x : Cm} : ∀ q, l < q → (∀ t, l < t → t < q → V t = 0) → mkCm V w x q = mkCm V w x (l + 1)
  | 0, h, _ => absurd h (by omega)
  | q + 1, h, hz => by
    by_cases c : q = l
    · rw [c]
    · rw [mkCm_n (hz q (by omega) (by omega)), mkCm_stay q (by omega) (fun t h1 h2 => hz t h1 (by omega))]
theorem mkCm_V {V : Nat → Nat} {w : Nat} {x : Cm} : ∀ j, cmV (mkCm V w x j) = cmV x
  | 0 => rfl
  | j + 1 => by
    by_cases c : V j = 0
    · rw [mkCm_n c, mkCm_V j]
    · rw [mkCm_y c]
      exact mkCm_V j
theorem mkCm_ok {ns w : Nat} {V : Nat → Nat} {x : Cm} (hx : CmK ns x) (hV : ∀ j, j < 24 → V j ≤ 100) (h0 : V 0 ≠ 0) (hw : w = 117 ∨ w = 112) : ∀ j, j ≤ 24 → CmK ns (mkCm V w x j) ∧ sumN (cmL (mkCm V w x j)) (cmN (mkCm V w x j)) = nx V j
  | 0, _ => ⟨cmK_clr hx, (nx_at (by decide) h0).symm⟩
  | j + 1, h => by
    obtain ⟨i1, i2⟩ := mkCm_ok hx hV h0 hw j (by omega)
    by_cases c : V j = 0
    · rw [mkCm_n c, ← nx_no (by omega) c]
      exact ⟨i1, i2⟩
    · rw [mkCm_y c]
      rw [nx_at (by omega) c] at i2
      obtain ⟨a1, a2, a3, a4⟩ := nx_spec V (i := j + 1) (by omega)
      refine ⟨cmK_app i1 (by omega) ?_ hw (by rw [i2]; omega), by rw [sum_app, i2]; omega⟩
      have : rdq (nx V (j + 1)) < 24 := by
        unfold rdq
        by_cases cq : nx V (j + 1) < 24
        · rw [if_pos cq]
          exact cq
        · rw [if_neg cq]
          decide
      have := hV _ this
      omega
theorem rdq_w {V : Nat → Nat} {i q : Nat} (h0 : V 0 ≠ 0) (h : NX V i q) : V (rdq q) ≠ 0 := by
  unfold rdq
  by_cases c : q < 24
  · rw [if_pos c]
    exact h.2.2.2 c
  · rw [if_neg c]
    exact h0
theorem rdq_lt (q : Nat) : rdq q < 24 := by
  unfold rdq
  by_cases c : q < 24
  · rw [if_pos c]
    exact c
  · rw [if_neg c]
    decide
theorem wI_p {n : Nat} (h : n ≠ 0) : nI n - 1 = nI (n - 1) := by
  obtain ⟨m, rfl⟩ : ∃ m, n = m + 1 := ⟨n - 1, by omega⟩
  rw [nI_pred]
  rfl
theorem nI_dif {a b : Nat} (ha : a ≤ 1000) (hb : b ≤ 1000) : (if 0 ≤ (nI b - nI a) then (nI b - nI a) else 0 - (nI b - nI a)) = nI ((b : Int) - (a : Int)).natAbs := by
  have e : (nI b - nI a).toInt = (b : Int) - (a : Int) := by
    rw [Int32.toInt_sub, nI_toInt (by omega), nI_toInt (by omega), Int.bmod_eq_of_le (by omega) (by omega)]
  exact abs32 (by rw [e]) (by omega)
theorem p_steepRise {S : Hp} {Φ : Hp → Int32 → Prop} {w a b : Nat} (ha : a ≤ 1000) (hb : b ≤ 1000) (hw : w = 117 ∨ w = 112) (k : Φ S (nI (ris w a b))) : wX1_steepRise S (nI a) (nI b) (nI w) Φ := by
  unfold wX1_steepRise wX1_steepRise_b0
  rw [nI_dif ha hb]
  unfold ris at k
  rcases hw with hw | hw
  · rw [hw] at k ⊢
    rw [if_neg (by decide), Nat.one_mul] at k
    exact fi_n (by decide) k
  · rw [hw] at k ⊢
    rw [if_pos rfl, ← nI_mul] at k
    exact fi_p rfl k
section MK9
variable {A E : Nat → Nat} {ls : Nat → List Nat} {nl nc nd : Nat} {S : Hp} {D : Dt}
theorem p_nextWished {Φ : Hp → Int32 → Prop} {c i : Nat} {x : Cm} (h : Rep A E ls nl nc nd S D) (hc : c < nc) (hc8 : c < 8) (hx : CmC x c D) (hv : ∀ j, j < 24 → cmV x j ≤ 100) (hi : i < 24) (kk : Φ S (nI (nx (cmV x) (i + 1)))) : wX1_nextWished S (A (500 + 5 * c)) (nI i) Φ := by
  obtain ⟨l0, l1, l2, l3, l4⟩ := cam_al (nl := nl) (nd := nd) hc
  obtain ⟨g0, f1, f2, f3, f4, g1, g2, g3, g4, n1, n2, n3, n4⟩ := cam_ h hc hc8
  obtain ⟨a1, a2, a3, a4⟩ := nx_spec (cmV x) (i := i + 1) (by omega)
  unfold wX1_nextWished wX1_nextWished_b0
  rw [← nI_succ]
  refine it2_ex (fun j S1 v => S1 = S ∧ v = nI (i + 1 + j)) (nx (cmV x) (i + 1) - (i + 1)) ?_ ?_ ⟨rfl, rfl⟩
  · rintro j hj S1 _ k9 ⟨rfl, rfl⟩ hk9
    unfold wX1_nextWished_b4
    refine if_n (nI_ge (b := 24) (show i + 1 + j < 24 by omega) (by decide)) ⟨g0, _, f4, g4, by rw [n4]; exact in_nI (by omega) (by decide), ?_⟩
    have v : S1.AI (A (504 + 5 * c)) (nI (i + 1 + j)).toNatClampNeg = nI (cmV x (i + 1 + j)) - 1 := rd_I h l4 (by omega) (hx.2.2.2.2 _ (by omega))
    rw [v, a3 (i + 1 + j) (by omega) (by omega)]
    refine if_p rfl ?_
    rw [← nI_succ]
    exact hk9 _ _ ⟨rfl, rfl⟩
  · rintro S1 _ k9 ⟨rfl, rfl⟩
    unfold wX1_nextWished_b4
    rw [show i + 1 + (nx (cmV x) (i + 1) - (i + 1)) = nx (cmV x) (i + 1) by omega]
    by_cases cq : nx (cmV x) (i + 1) < 24
    · refine if_n (nI_ge (b := 24) cq (by decide)) ⟨g0, _, f4, g4, by rw [n4]; exact in_nI cq (by decide), ?_⟩
      have v : S1.AI (A (504 + 5 * c)) (nI (nx (cmV x) (i + 1))).toNatClampNeg = nI (cmV x (nx (cmV x) (i + 1))) - 1 := rd_I h l4 (by omega) (hx.2.2.2.2 _ cq)
      have w := wI_m1 (n := cmV x (nx (cmV x) (i + 1))) (by have := hv _ cq; omega)
      rw [v]
      exact if_n (fun q => a4 cq (w.mp q)) kk
    · have e : nx (cmV x) (i + 1) = 24 := by omega
      rw [e] at kk ⊢
      exact if_p (nI_le (Nat.le_refl 24) (by decide)) kk
theorem p_wishedRound {Φ : Hp → Int32 → Prop} {c q : Nat} {x : Cm} (h : Rep A E ls nl nc nd S D) (hc : c < nc) (hc8 : c < 8) (hx : CmC x c D) (hq : q ≤ 24) (kk : Φ S (nI (cmV x (rdq q)) - 1)) : wX1_wishedRound S (A (500 + 5 * c)) (nI q) Φ := by
  obtain ⟨l0, l1, l2, l3, l4⟩ := cam_al (nl := nl) (nd := nd) hc
  obtain ⟨g0, f1, f2, f3, f4, g1, g2, g3, g4, n1, n2, n3, n4⟩ := cam_ h hc hc8
  unfold wX1_wishedRound wX1_wishedRound_b0
  refine ⟨g0, _, f4, ?_⟩
  by_cases cq : q < 24
  · have e : rdq q = q := if_pos cq
    rw [e] at kk
    have v : S.AI (A (504 + 5 * c)) (nI q).toNatClampNeg = nI (cmV x q) - 1 := rd_I h l4 (by omega) (hx.2.2.2.2 _ cq)
    refine if_n (nI_ge (b := 24) cq (by decide)) ⟨g4, by rw [n4]; exact in_nI cq (by decide), ?_⟩
    rw [v]
    exact kk
  · have e : rdq q = 0 := if_neg cq
    rw [e] at kk
    have v : S.AI (A (504 + 5 * c)) (0 : Int32).toNatClampNeg = nI (cmV x 0) - 1 := rd_I (i := 0) h l4 (by omega) (hx.2.2.2.2 0 (by decide))
    have e24 : q = 24 := by omega
    rw [e24]
    refine if_p (nI_le (Nat.le_refl 24) (by decide)) ⟨g4, by rw [n4]; exact in_nI (i := 0) (by decide) (by decide), ?_⟩
    rw [v]
    exact kk
theorem p_areSteeper {Φ : Hp → Int32 → Prop} {c w b : Nat} {x : Cm} (h : Rep A E ls nl nc nd S D) (hc : c < nc) (hc8 : c < 8) (hx : CmC x c D) (hv : ∀ j, j < 24 → cmV x j ≤ 100) (h0 : cmV x 0 ≠ 0) (hw : w = 117 ∨ w = 112) (hb : b ≤ 99) (kk : Φ S (bI (!okW (cmV x) w b 24))) : wX1_areWishesSteeper S (A (500 + 5 * c)) (nI w) (nI b) Φ := by
  obtain ⟨l0, l1, l2, l3, l4⟩ := cam_al (nl := nl) (nd := nd) hc
  obtain ⟨g0, f1, f2, f3, f4, g1, g2, g3, g4, n1, n2, n3, n4⟩ := cam_ h hc hc8
  unfold wX1_areWishesSteeper wX1_areWishesSteeper_b0
  by_cases all : okW (cmV x) w b 24 = true
  · rw [all] at kk
    refine it2_ex (fun j S1 v => S1 = S ∧ v = nI j) 24 ?_ ?_ ⟨rfl, rfl⟩
    · rintro j hj S1 _ k9 ⟨rfl, rfl⟩ hk9
      unfold wX1_areWishesSteeper_b2 wX1_areWishesSteeper_b52
      refine if_n (nI_ge (b := 24) hj (by decide)) ⟨g0, _, f4, g4, by rw [n4]; exact in_nI hj (by decide), ?_⟩
      have v : S1.AI (A (504 + 5 * c)) (nI j).toNatClampNeg = nI (cmV x j) - 1 := rd_I h l4 (by omega) (hx.2.2.2.2 _ hj)
      have hvj := hv j hj
      have w9 := wI_m1 (n := cmV x j) (by omega)
      rw [v]
      by_cases cz : cmV x j = 0
      · refine if_p (w9.mpr cz) ?_
        rw [← nI_succ]
        exact hk9 _ _ ⟨rfl, rfl⟩
      · obtain ⟨a1, a2, a3, a4⟩ := nx_spec (cmV x) (i := j + 1) (by omega)
        have hr := rdq_w h0 (nx_spec (cmV x) (i := j + 1) (by omega))
        have hvr := hv _ (rdq_lt (nx (cmV x) (j + 1)))
        refine if_n (fun q => cz (w9.mp q)) (p_nextWished h hc hc8 hx hv hj ⟨g0, _, f4, g4, by rw [n4]; exact in_nI hj (by decide), p_wishedRound h hc hc8 hx a2 ?_⟩)
        rw [v, wI_p cz, wI_p hr]
        refine p_steepRise (by omega) (by omega) hw ?_
        rw [nI_sub (by omega), nI_mul]
        have ok1 : okW (cmV x) w b (j + 1) = true := by
          cases e : okW (cmV x) w b (j + 1) with
          | true => rfl
          | false => rw [okW_f e 24 (by omega)] at all; exact absurd all (by decide)
        rw [okW_s, decide_eq_false cz, Bool.false_or, Bool.and_eq_true] at ok1
        have le := of_decide_eq_true ok1.2
        have m1 : b * (nx (cmV x) (j + 1) - j) ≤ 99 * 24 := Nat.mul_le_mul hb (by omega)
        refine if_p (nI_le le (by omega)) ?_
        rw [← nI_succ]
        exact hk9 _ _ ⟨rfl, rfl⟩
    · rintro S1 _ k9 ⟨rfl, rfl⟩
      unfold wX1_areWishesSteeper_b2
      exact if_p (nI_le (Nat.le_refl 24) (by decide)) kk
  · have all' : okW (cmV x) w b 24 = false := by
      cases e : okW (cmV x) w b 24 with
      | true => exact absurd e all
      | false => rfl
    rw [all'] at kk
    -- the first that is too steep
    have ex : ∀ n, okW (cmV x) w b n = false → ∃ j, j < n ∧ okW (cmV x) w b j = true ∧ okW (cmV x) w b (j + 1) = false := by
      intro n
      induction n with
      | zero => intro q; exact absurd (show true = false from q) (by decide)
      | succ n ih =>
        intro q
        cases e : okW (cmV x) w b n with
        | true => exact ⟨n, by omega, e, q⟩
        | false =>
          obtain ⟨j, j1, j2, j3⟩ := ih e
          exact ⟨j, by omega, j2, j3⟩
    obtain ⟨m, m1, m2, m3⟩ := ex 24 all'
    refine it2_ex (fun j S1 v => S1 = S ∧ v = nI j) m ?_ ?_ ⟨rfl, rfl⟩
    · rintro j hj S1 _ k9 ⟨rfl, rfl⟩ hk9
      unfold wX1_areWishesSteeper_b2 wX1_areWishesSteeper_b52
      refine if_n (nI_ge (b := 24) (show j < 24 by omega) (by decide)) ⟨g0, _, f4, g4, by rw [n4]; exact in_nI (by omega) (by decide), ?_⟩
      have v : S1.AI (A (504 + 5 * c)) (nI j).toNatClampNeg = nI (cmV x j) - 1 := rd_I h l4 (by omega) (hx.2.2.2.2 _ (by omega))
      have hvj := hv j (by omega)
      have w9 := wI_m1 (n := cmV x j) (by omega)
      rw [v]
      by_cases cz : cmV x j = 0
      · refine if_p (w9.mpr cz) ?_
        rw [← nI_succ]
        exact hk9 _ _ ⟨rfl, rfl⟩
      · obtain ⟨a1, a2, a3, a4⟩ := nx_spec (cmV x) (i := j + 1) (by omega)
        have hr := rdq_w h0 (nx_spec (cmV x) (i := j + 1) (by omega))
        have hvr := hv _ (rdq_lt (nx (cmV x) (j + 1)))
        refine if_n (fun q => cz (w9.mp q)) (p_nextWished h hc hc8 hx hv (by omega) ⟨g0, _, f4, g4, by rw [n4]; exact in_nI (by omega) (by decide), p_wishedRound h hc hc8 hx a2 ?_⟩)
        rw [v, wI_p cz, wI_p hr]
        refine p_steepRise (by omega) (by omega) hw ?_
        rw [nI_sub (by omega), nI_mul]
        have ok1 : okW (cmV x) w b (j + 1) = true := by
          cases e : okW (cmV x) w b (j + 1) with
          | true => rfl
          | false => rw [okW_f e m (by omega)] at m2; exact absurd m2 (by decide)
        rw [okW_s, decide_eq_false cz, Bool.false_or, Bool.and_eq_true] at ok1
        have le := of_decide_eq_true ok1.2
        have m1 : b * (nx (cmV x) (j + 1) - j) ≤ 99 * 24 := Nat.mul_le_mul hb (by omega)
        refine if_p (nI_le le (by omega)) ?_
        rw [← nI_succ]
        exact hk9 _ _ ⟨rfl, rfl⟩
    · rintro S1 _ k9 ⟨rfl, rfl⟩
      unfold wX1_areWishesSteeper_b2
      refine if_n (nI_ge (b := 24) m1 (by decide)) ⟨g0, _, f4, g4, by rw [n4]; exact in_nI m1 (by decide), ?_⟩
      have v : S1.AI (A (504 + 5 * c)) (nI m).toNatClampNeg = nI (cmV x m) - 1 := rd_I h l4 (by omega) (hx.2.2.2.2 _ m1)
      have hvj := hv m m1
      have w9 := wI_m1 (n := cmV x m) (by omega)
      rw [okW_s, m2, Bool.true_and, Bool.or_eq_false_iff] at m3
      have cz : cmV x m ≠ 0 := of_decide_eq_false m3.1
      have nle := of_decide_eq_false m3.2
      obtain ⟨a1, a2, a3, a4⟩ := nx_spec (cmV x) (i := m + 1) (by omega)
      have hr := rdq_w h0 (nx_spec (cmV x) (i := m + 1) (by omega))
      have hvr := hv _ (rdq_lt (nx (cmV x) (m + 1)))
      rw [v]
      refine if_n (fun q => cz (w9.mp q)) (p_nextWished h hc hc8 hx hv m1 ⟨g0, _, f4, g4, by rw [n4]; exact in_nI m1 (by decide), p_wishedRound h hc hc8 hx a2 ?_⟩)
      rw [v, wI_p cz, wI_p hr]
      refine p_steepRise (by omega) (by omega) hw ?_
      rw [nI_sub (by omega), nI_mul]
      have m4 : b * (nx (cmV x) (m + 1) - m) ≤ 99 * 24 := Nat.mul_le_mul hb (by omega)
      have r1 : ris w (cmV x m - 1) (cmV x (rdq (nx (cmV x) (m + 1))) - 1) ≤ 2 * 200 := by
        unfold ris
        refine Nat.mul_le_mul ?_ (by omega)
        by_cases cw : w = 112
        · rw [if_pos cw]
          exact Nat.le_refl _
        · rw [if_neg cw]
          decide
      exact if_n (fun q => nle ((nI_leI (by omega) (by omega)).mp q)) kk
end MK9
