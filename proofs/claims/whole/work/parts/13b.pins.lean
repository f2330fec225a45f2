/-! THE CLASS: the pins of drums -/
def MskM (pn : Nat → Nat → Nat → Bool) (nd : Nat) (D : Dt) : Prop := ∀ d p t, d < nd → p < 24 → t < 8 → ((D.AI (601 + 3 * d) p &&& (1 <<< (nI t &&& 31))) = 0 ↔ pn d p t = false)
section CP9
variable {A E : Nat → Nat} {ls : Nat → List Nat} {nl nc nd : Nat} {S : Hp} {D : Dt} {G : Nat → Nat → Nat}
theorem drm_ (h : Rep A E ls nl nc nd S D) {d : Nat} (hd : d < nd) (hd4 : d < 4) : isA S (A (600 + 3 * d)) 2 ∧ S.FR 129 (A (600 + 3 * d)) = some (A (601 + 3 * d)) ∧ S.FR 130 (A (600 + 3 * d)) = some (A (602 + 3 * d)) ∧ isA S (A (601 + 3 * d)) 21 ∧ isA S (A (602 + 3 * d)) 21 ∧ S.N (A (601 + 3 * d)) = 24 ∧ S.N (A (602 + 3 * d)) = 8 := by
  have t1 : ∀ d, d < 4 → kdr (600 + 3 * d) = 2 ∧ kdr (601 + 3 * d) = 21 ∧ kdr (602 + 3 * d) = 21 ∧ ndr (601 + 3 * d) = 24 ∧ ndr (602 + 3 * d) = 8 := by decide
  obtain ⟨k0, k1, k2, n1, n2⟩ := t1 d hd4
  obtain ⟨f1, f2⟩ := h.1.2.2.2.2.2.2.1 d hd
  have a0 : al nl nc nd (600 + 3 * d) := al_d (j := 0) hd (by decide)
  have a1 : al nl nc nd (601 + 3 * d) := al_d (j := 1) hd (by decide)
  have a2 : al nl nc nd (602 + 3 * d) := al_d (j := 2) hd (by decide)
  exact ⟨rep_is h a0 k0, f1, f2, rep_is h a1 k1, rep_is h a2 k2, rep_N h a1 n1, rep_N h a2 n2⟩
theorem drm_al {d : Nat} (hd : d < nd) : al nl nc nd (600 + 3 * d) ∧ al nl nc nd (601 + 3 * d) ∧ al nl nc nd (602 + 3 * d) := ⟨al_d (j := 0) hd (by decide), al_d (j := 1) hd (by decide), al_d (j := 2) hd (by decide)⟩
theorem p_strikePart {Φ : Hp → Prop} {d p : Nat} {pn : Nat → Nat → Nat → Bool} (h : Rep A E ls nl nc nd S D) (hd : d < nd) (hd4 : d < 4) (hp : p < 24) (hpn : MskM pn nd D)
    (kk : ∀ S' D', Rep A E ls nl nc nd S' D' → SamX (fun r => r = 602 + 3 * d) (fun _ => False) D D' → (∀ t, t < 8 → D'.AI (602 + 3 * d) t = if pn d p t = true then D.AI (602 + 3 * d) t + 1 else D.AI (602 + 3 * d) t) → Φ S') : wX2_strikePart S (A (600 + 3 * d)) (nI p) Φ := by
  unfold wX2_strikePart wX2_strikePart_b0
  refine it2_ex (fun j S1 v => v = nI j ∧ ∃ D1, Rep A E ls nl nc nd S1 D1 ∧ SamX (fun r => r = 602 + 3 * d) (fun _ => False) D D1 ∧ ∀ t, t < 8 → D1.AI (602 + 3 * d) t = if t < j ∧ pn d p t = true then D.AI (602 + 3 * d) t + 1 else D.AI (602 + 3 * d) t) 8 ?_ ?_ ⟨rfl, D, h, SamX.rf, fun t _ => by rw [if_neg (fun q => Nat.not_lt_zero t q.1)]⟩
  · rintro j hj S1 _ k9 ⟨rfl, D1, h1, s1, r1⟩ hk9
    obtain ⟨g1, g2, g3, g4, g5, g6, g7⟩ := drm_ h1 hd hd4
    obtain ⟨l0, l1, l2⟩ := drm_al (nl := nl) (nc := nc) hd
    have cp : (nI p).toNatClampNeg = p := cl_nI (by omega)
    have cj : (nI j).toNatClampNeg = j := cl_nI (by omega)
    have vst : S1.AI (A (602 + 3 * d)) j = D.AI (602 + 3 * d) j := by
      rw [rep_AI h1 j l2, r1 j hj, if_neg (fun q => Nat.lt_irrefl j q.1)]
    have vm : S1.AI (A (601 + 3 * d)) p = D.AI (601 + 3 * d) p := by
      rw [rep_AI h1 p l1, s1.2.1 _ (by omega)]
    have hb := hpn d p j hd hp hj
    unfold wX2_strikePart_b2
    rw [cp, cj]
    refine if_n (nI_ge (b := 8) hj (by decide)) ⟨g1, A (601 + 3 * d), g2, g4, by rw [g6]; exact in_nI hp (by decide), ?_⟩
    rw [vm]
    refine ⟨fun c => ?_, fun c => ⟨A (602 + 3 * d), g3, g5, by rw [g7]; exact in_nI hj (by decide), by rw [g7]; exact in_nI hj (by decide), fun S3 e3 => ?_⟩⟩
    · have hf := hb.mp c
      unfold wX2_strikePart_b31
      rw [← nI_succ]
      refine hk9 _ _ ⟨rfl, D1, h1, s1, fun t ht => ?_⟩
      rw [r1 t ht]
      by_cases c2 : t < j ∧ pn d p t = true
      · rw [if_pos c2, if_pos ⟨by omega, c2.2⟩]
      · rw [if_neg c2, if_neg (fun q => ?_)]
        by_cases c3 : t = j
        · rw [c3, hf] at q
          exact absurd q.2 (by decide)
        · exact c2 ⟨by omega, q.2⟩
    · have hf : pn d p j = true := by
        cases e : pn d p j
        · exact absurd (hb.mpr e) c
        · rfl
      rw [vst] at e3
      have h3 := set_AI h1 (r := 602 + 3 * d) j (D.AI (602 + 3 * d) j + 1) l2
      rw [← e3] at h3
      unfold wX2_strikePart_b31
      rw [← nI_succ]
      refine hk9 _ _ ⟨rfl, _, h3, s1.tr (samX_I rfl), fun t ht => ?_⟩
      by_cases c2 : t = j
      · rw [c2, dtAI_s, if_pos ⟨by omega, hf⟩]
      · rw [dtAI_n (fun q => c2 q.2), r1 t ht]
        by_cases c3 : t < j ∧ pn d p t = true
        · rw [if_pos c3, if_pos ⟨by omega, c3.2⟩]
        · rw [if_neg c3, if_neg (fun q => c3 ⟨by omega, q.2⟩)]
  · rintro S1 _ k9 ⟨rfl, D1, h1, s1, r1⟩
    unfold wX2_strikePart_b2
    refine if_p (nI_le (a := 8) (b := 8) (Nat.le_refl _) (by decide)) (kk S1 D1 h1 s1 (fun t ht => ?_))
    rw [r1 t ht]
    by_cases c : pn d p t = true
    · rw [if_pos c, if_pos ⟨ht, c⟩]
    · rw [if_neg c, if_neg (fun q => c q.2)]
theorem p_pass {Φ : Hp → Prop} {d : Nat} {a b : Int} {pn : Nat → Nat → Nat → Bool} (h : Rep A E ls nl nc nd S D) (hd : d < nd) (hd4 : d < 4) (hpn : MskM pn nd D) (ra : a.natAbs ≤ 2400000000000000000) (rb : b.natAbs ≤ 2400000000000000000) (hab : (b - a).natAbs ≤ 100000)
    (kk : ∀ S' D', Rep A E ls nl nc nd S' D' → SamX (fun r => r = 602 + 3 * d) (fun _ => False) D D' → (∀ t, t < 8 → D'.AI (602 + 3 * d) t = hits (pn d) a b (fun t => D.AI (602 + 3 * d) t) t) → Φ S') : wX2_pass S (A (600 + 3 * d)) (i6 a) (i6 b) Φ := by
  have fa : Rg a := by unfold Rg; omega
  have fb : Rg b := by unfold Rg; omega
  have fN : Rg ((b - a).natAbs : Int) := by unfold Rg; omega
  have f1 : Rg 100000 := by unfold Rg; omega
  have eM : (if i6 b < i6 a then i6 a else i6 b) = i6 (max a b) := i6_max fb fa
  have em : (if i6 b < i6 a then i6 b else i6 a) = i6 (min a b) := by
    rw [i6_min fb fa]
    congr 1
    omega
  have ec : i6 (max a b) - i6 (min a b) = i6 ((b - a).natAbs : Int) := by
    rw [i6_sub]
    congr 1
    omega
  have e1 : (100000 : Int64) = i6 100000 := rfl
  have el : (if i6 100000 < i6 ((b - a).natAbs : Int) then i6 100000 else i6 ((b - a).natAbs : Int)) = i6 ((b - a).natAbs : Int) := by
    rw [i6_min f1 fN]
    congr 1
    omega
  have e2 : (1 : Int64) = i6 (((0 : Nat) : Int) + 1) := rfl
  have hr : ∀ j : Nat, j ≤ (b - a).natAbs → Rg ((j : Int) + 1) := fun j hj => by
    unfold Rg
    omega
  have hr2 : ∀ j : Nat, j < (b - a).natAbs → Rg (min a b + (j : Int) + 1) := fun j hj => by
    unfold Rg
    omega
  unfold wX2_pass wX2_pass_b0
  rw [eM, em, ec, e1, el, e2]
  refine it4_ex (fun j S1 x y v => x = i6 (min a b) ∧ y = i6 ((b - a).natAbs : Int) ∧ v = i6 ((j : Int) + 1) ∧ ∃ D1, Rep A E ls nl nc nd S1 D1 ∧ SamX (fun r => r = 602 + 3 * d) (fun _ => False) D D1 ∧ ∀ t, t < 8 → D1.AI (602 + 3 * d) t = hitN (pn d) (min a b) j (fun t => D.AI (602 + 3 * d) t) t) (b - a).natAbs ?_ ?_ ⟨rfl, rfl, rfl, D, h, SamX.rf, fun t _ => rfl⟩
  · rintro j hj S1 _ _ _ k9 ⟨rfl, rfl, rfl, D1, h1, s1, r1⟩ hk9
    have ea : i6 (min a b) + i6 ((j : Int) + 1) = i6 (min a b + (j : Int) + 1) := by
      rw [i6_add]
      congr 1
      omega
    unfold wX2_pass_b26
    refine if_n ?_ ?_
    · rw [cmp_gt (hr j (by omega)) fN]
      omega
    · rw [i6_24, ea]
      refine p_floorMod (hr2 j hj) rg_24 (by decide) ⟨(drm_ h1 hd hd4).1, ?_⟩
      have hm0 := Int.emod_nonneg (min a b + (j : Int) + 1) (show (24 : Int) ≠ 0 by decide)
      have hm1 := Int.emod_lt_of_pos (min a b + (j : Int) + 1) (show (0 : Int) < 24 by decide)
      have ep : (i6 ((min a b + (j : Int) + 1) % 24)).toInt32 = nI ((min a b + (j : Int) + 1) % 24).toNat := by
        have e : (min a b + (j : Int) + 1) % 24 = (((min a b + (j : Int) + 1) % 24).toNat : Int) := by omega
        rw [e]
        exact i6_3 (by omega)
      rw [ep]
      refine p_strikePart (pn := pn) h1 hd hd4 (by omega) ?_ (fun S2 D2 h2 s2 r2 => ?_)
      · intro d' p t hd' hp ht
        rw [s1.2.1 _ (by omega)]
        exact hpn d' p t hd' hp ht
      · have e : i6 ((j : Int) + 1) + 1 = i6 (((j + 1 : Nat) : Int) + 1) := by
          rw [i6_1, i6_add]
          congr 1
        rw [e]
        refine hk9 _ _ _ _ ⟨rfl, rfl, rfl, D2, h2, s1.tr s2, fun t ht => ?_⟩
        rw [r2 t ht, r1 t ht]
        rfl
  · rintro S1 _ _ _ k9 ⟨rfl, rfl, rfl, D1, h1, s1, r1⟩
    unfold wX2_pass_b26
    refine if_p ?_ (kk S1 D1 h1 s1 r1)
    rw [cmp_gt (hr _ (Nat.le_refl _)) fN]
    omega
/-! how far a shaft goes in one step: at most some 870 parts -/
def Rnn : Nat → Nat
  | 0 => 1
  | n + 1 => 5 * Rnn n + 24
theorem rnn_pos (n : Nat) : 0 < Rnn n := by
  cases n with
  | zero => decide
  | succ n => show 0 < 5 * Rnn n + 24; omega
theorem cmb_ra {G : Nat → Nat → Nat} {k B : Nat} {x y : Nat × Nat} (hk : kOK G k) (h1 : x.2 ≤ B * x.1) (h2 : y.2 ≤ B * y.1) : (cmb G k x y).2 ≤ (5 * B + 24) * (cmb G k x y).1 := by
  have ex : ∀ P : Nat, (5 * B + 24) * P = 5 * (B * P) + 24 * P := fun P => by rw [Nat.add_mul, Nat.mul_assoc]
  unfold cmb
  split
  · have h5 : G k 4 ≤ 5 * G k 5 := by
      unfold kOK at hk
      omega
    have e2 : G k 4 * x.2 ≤ 5 * G k 5 * (B * x.1) := Nat.mul_le_mul h5 h1
    have e3 : 5 * G k 5 * (B * x.1) = 5 * (B * (x.1 * G k 5)) := by ac_rfl
    dsimp only
    rw [ex]
    exact Nat.max_le.mpr ⟨by omega, by omega⟩
  · split
    · dsimp only
      rw [ex]
      exact Nat.max_le.mpr ⟨by omega, by omega⟩
    · split
      · have h5 : 0 < G k 4 := by
          unfold kOK at hk
          omega
        have e1 : x.1 ≤ x.1 * G k 4 := Nat.le_mul_of_pos_right _ h5
        have e2 : B * x.1 ≤ B * (x.1 * G k 4) := Nat.mul_le_mul_left _ e1
        dsimp only
        rw [ex]
        exact Nat.max_le.mpr ⟨by omega, by omega⟩
      · split
        · have h5 : 0 < G k 4 := by
            unfold kOK at hk
            omega
          have e1 : x.1 ≤ x.1 * G k 4 := Nat.le_mul_of_pos_right _ h5
          have e2 : G k 4 * x.2 ≤ G k 4 * (B * x.1) := Nat.mul_le_mul_left _ h1
          have e3 : G k 4 * (B * x.1) = B * (x.1 * G k 4) := by ac_rfl
          dsimp only
          rw [ex]
          exact Nat.max_le.mpr ⟨by omega, by omega⟩
        · have e2 : G k 4 * x.2 * y.1 ≤ G k 4 * (B * x.1) * y.1 := Nat.mul_le_mul_right _ (Nat.mul_le_mul_left _ h1)
          have e3 : G k 5 * y.2 * x.1 ≤ G k 5 * (B * y.1) * x.1 := Nat.mul_le_mul_right _ (Nat.mul_le_mul_left _ h2)
          have e4 : G k 4 * (B * x.1) * y.1 = B * (x.1 * y.1 * G k 4) := by ac_rfl
          have e5 : G k 5 * (B * y.1) * x.1 = B * (x.1 * y.1 * G k 5) := by ac_rfl
          have e6 : B * (x.1 * y.1 * (G k 4 + G k 5)) = B * (x.1 * y.1 * G k 4) + B * (x.1 * y.1 * G k 5) := by rw [Nat.mul_add, Nat.mul_add]
          dsimp only
          rw [ex]
          exact Nat.max_le.mpr ⟨by omega, by omega⟩
theorem dQ_ra {ns nl : Nat} {G : Nat → Nat → Nat} (hG : GrOK ns nl G) : ∀ n s, (dQ G nl n s).2 ≤ Rnn n * (dQ G nl n s).1 := by
  intro n
  induction n with
  | zero => intro s; exact Nat.le_refl 1
  | succ n ih =>
    intro s
    rw [show dQ G nl (n + 1) s = (match drv G nl s with | none => (1, 1) | some k => cmb G k (dQ G nl n (G k 1)) (dQ G nl n (G k 2))) from rfl]
    cases h : drv G nl s with
    | none =>
      have hp := rnn_pos (n + 1)
      show 1 ≤ Rnn (n + 1) * 1
      omega
    | some k => exact cmb_ra (hG.2.2.1 k (drv_some h).1).1 (ih _) (ih _)
theorem tn_far {ns nl : Nat} {G : Nat → Nat → Nat} (hG : GrOK ns nl G) {s : Nat} {q t : Rat} (h : Bd (pm G nl s) (qm G nl s) t) : (fl 24 (q + t) - fl 24 q).natAbs ≤ 100000 := by
  have h1 := fl_diff (a := 24) (q := q) h
  have h2 := dQ_ra hG 3 s
  have h3 := (dQ_pos hG 3 s).1
  have h4 : Rnn 3 = 869 := by decide
  rw [h4] at h2
  unfold pm qm at h1
  generalize (dQ G nl 3 s).1 = x at *
  generalize (dQ G nl 3 s).2 = y at *
  have h5 : (fl 24 (q + t) - fl 24 q).natAbs * (24 * x) ≤ 870 * (24 * x) := by
    have h6 : (fl ((24 : Nat) : Int) (q + t) - fl ((24 : Nat) : Int) q).natAbs * (24 * x) ≤ 24 * y + 24 * x := h1
    refine Nat.le_trans h6 ?_
    omega
  have h7 := Nat.le_of_mul_le_mul_right h5 (by omega)
  omega
theorem hits_self {pn : Nat → Nat → Bool} {a : Int} {v : Nat → Int32} {t : Nat} : hits pn a a v t = v t := by
  unfold hits
  rw [Int.sub_self]
  rfl
/-- how far a place times 24 can be -/
theorem fl_lim {M B : Nat} {q : Rat} (b : Bq M B q) (hM0 : 0 < M) (hB : B ≤ 100000000000000000) : (fl 24 q).natAbs ≤ 2400000000000000000 := by
  unfold fl
  have h1 := Int.natAbs_ediv_le_natAbs ((24 : Int) * q.num) (q.den : Int)
  have h2 : ((24 : Int) * q.num).natAbs = 24 * q.num.natAbs := Int.natAbs_mul _ _
  obtain ⟨w0, w1, w2, w3⟩ := b
  have w4 : 0 < w1 := Nat.pos_of_ne_zero (fun e => by rw [e, Nat.mul_zero] at w2; omega)
  have w5 : q.num.natAbs ≤ q.num.natAbs * w1 := Nat.le_mul_of_pos_right _ w4
  omega
theorem p_strikePins {Φ : Hp → Prop} {ns n : Nat} {P tn : Nat → Rat} {pn : Nat → Nat → Nat → Bool} {ds : Nat → Nat} (h : Rep A E ls nl nc nd S D) (hG : GrOK ns nl G) (hls : ls 3 = (List.range nd).map (fun d => A (600 + 3 * d))) (hnd : nd ≤ 4) (hB3 : RowV D 3 14 P) (hT : RowV D 4 14 tn) (hP : RowV D 2 14 (fun s => P s + tn s)) (hn : n ≤ 24560) (hB : BdP G nl n P) (htb : ∀ s, Bd (pm G nl s) (qm G nl s) (tn s))
    (hds : ∀ d, d < nd → D.FI 128 (600 + 3 * d) = nI (ds d) ∧ ds d < ns) (hpn : MskM pn nd D)
    (kk : ∀ S' D', Rep A E ls nl nc nd S' D' → SamX (fun r => ∃ d, d < nd ∧ r = 602 + 3 * d) (fun _ => False) D D' → (∀ d t, d < nd → t < 8 → D'.AI (602 + 3 * d) t = hits (pn d) (fl 24 (P (ds d))) (fl 24 (P (ds d) + tn (ds d))) (fun t => D.AI (602 + 3 * d) t) t) → Φ S') : wX7_strikePins S (A 0) Φ := by
  have hns14 := hG.1
  have hlen : (ls 3).length = nd := by rw [hls, List.length_map, List.length_range]
  unfold wX7_strikePins wX7_strikePins_b0
  refine it2_ex (fun j S1 v => v = nI j ∧ ∃ D1, Rep A E ls nl nc nd S1 D1 ∧ SamX (fun r => ∃ d, d < nd ∧ r = 602 + 3 * d) (fun _ => False) D D1 ∧ ∀ d t, d < nd → t < 8 → D1.AI (602 + 3 * d) t = if d < j then hits (pn d) (fl 24 (P (ds d))) (fl 24 (P (ds d) + tn (ds d))) (fun t => D.AI (602 + 3 * d) t) t else D.AI (602 + 3 * d) t) nd ?_ ?_ ⟨rfl, D, h, SamX.rf, fun d t _ _ => by rw [if_neg (Nat.not_lt_zero d)]⟩
  · rintro j hj S1 _ k9 ⟨rfl, D1, h1, s1, r1⟩ hk9
    obtain ⟨d1, d2⟩ := hds j hj
    obtain ⟨m1, m2, m3, m4, m5, m6, m7, m8, m9, m10⟩ := mot_ h1 (m := 0) (by decide)
    obtain ⟨g1, g2, g3, g4, g5, g6, g7⟩ := drm_ h1 hj (by omega)
    have a458 := rep_fr h1 (458, 0, 20) (by decide)
    have vsh : S1.FI 128 (A (600 + 3 * j)) = nI (ds j) := by
      rw [rep_FI h1 128 (by decide) (drm_al hj).1, s1.1]
      exact d1
    have s14 : ds j < rn 4 := Nat.lt_of_lt_of_le d2 hns14
    have s14b : ds j < rn 3 := Nat.lt_of_lt_of_le d2 hns14
    have s14c : ds j < rn 2 := Nat.lt_of_lt_of_le d2 hns14
    have hT1 : RowV D1 4 14 tn := rowV_other hT (s1.2.2 38 (fun q => q)) (s1.2.2 39 (fun q => q))
    have hB1 : RowV D1 3 14 P := rowV_other hB3 (s1.2.2 36 (fun q => q)) (s1.2.2 37 (fun q => q))
    have hP1 : RowV D1 2 14 (fun s => P s + tn s) := rowV_other hP (s1.2.2 34 (fun q => q)) (s1.2.2 35 (fun q => q))
    have eT := hT1 (ds j) (by omega)
    have eB := hB1 (ds j) (by omega)
    have eP := hP1 (ds j) (by omega)
    dsimp only at eP
    obtain ⟨M1, M2, M3⟩ := pm_lt hG (ds j)
    have hq := qn_le M3 (show n ≤ 24600 by omega)
    have bP := bd_bq M1 (hB (ds j))
    have bT := bd_bq M1 (htb (ds j))
    have bV := bd_bq M1 (bd_add (hB (ds j)) (htb (ds j)))
    have rP := bq_rg bP M1 M2 (by omega) 24 (by omega)
    have rT := bq_rg bT M1 M2 (by omega) 24 (by omega)
    have rV := bq_rg bV M1 M2 (by omega) 24 (by omega)
    have next : ∀ (S2 : Hp) (D2 : Dt), Rep A E ls nl nc nd S2 D2 → SamX (fun r => ∃ d, d < nd ∧ r = 602 + 3 * d) (fun _ => False) D D2 → (∀ d t, d < nd → t < 8 → D2.AI (602 + 3 * d) t = if d = j then hits (pn j) (fl 24 (P (ds j))) (fl 24 (P (ds j) + tn (ds j))) (fun t => D1.AI (602 + 3 * j) t) t else D1.AI (602 + 3 * d) t) → wX7_strikePins_b80 (A 0) Φ k9 S2 (nI j) := fun S2 D2 h2 s2 r2 => by
      unfold wX7_strikePins_b80
      rw [← nI_succ]
      refine hk9 _ _ ⟨rfl, D2, h2, s2, fun d t hd ht => ?_⟩
      rw [r2 d t hd ht]
      by_cases c : d = j
      · subst c
        rw [if_pos rfl, if_pos (by omega)]
        exact hits_congr (by rw [r1 d t hd ht, if_neg (Nat.lt_irrefl d)])
      · rw [if_neg c, r1 d t hd ht]
        by_cases c2 : d < j
        · rw [if_pos c2, if_pos (by omega)]
        · rw [if_neg c2, if_neg (by omega)]
    unfold wX7_strikePins_b2
    refine ⟨c_is h1, A (1 + 3), rep_fr h1 (451, 0, 4) (by decide), ls_is h1 (by decide), p_size h1 (j := 3) (by decide) (if_n ?_ ⟨c_is h1, A (1 + 3), rep_fr h1 (451, 0, 4) (by decide), ls_is h1 (by decide), p_get (x := A (600 + 3 * j)) h1 (j := 3) (by decide) ?_ ⟨A (600 + 3 * j), rfl, g1, c_is h1, A 20, a458, m1, A (9 + 4), m4, (row_ h1 (p := 4) (by decide)).1, ?_⟩⟩)⟩
    · rw [hlen]
      exact nI_ge hj (by omega)
    · rw [hls, List.getElem?_map, List.getElem?_range hj]
      rfl
    rw [vsh]
    refine p_isMoving h1 (p := 4) (by decide) s14 (fun c => if_p rfl ?_) (fun c => if_n (by decide) ⟨c_is h1, A 20, a458, m1, A (9 + 3), m3, g1, (row_ h1 (p := 3) (by decide)).1, ?_⟩)
    · rw [eT.1] at c
      have z := (num0 rT.1).mp c
      refine next S1 D1 h1 s1 (fun d t hd ht => ?_)
      by_cases cd : d = j
      · rw [if_pos cd, z, Rat.add_zero, hits_self, cd]
      · rw [if_neg cd]
    · have e24 : (24 : Int64) = i6 ((24 : Nat) : Int) := rfl
      rw [vsh, e24]
      refine p_wholeTimes h1 (p := 3) (by decide) s14b eB rP.1 rP.2.2.1 (by decide) ⟨c_is h1, A 20, a458, m1, A (9 + 2), m2, g1, (row_ h1 (p := 2) (by decide)).1, ?_⟩
      rw [vsh]
      refine p_wholeTimes h1 (p := 2) (by decide) s14c eP rV.1 rV.2.2.1 (by decide) ⟨g1, ?_⟩
      refine p_pass (pn := pn) h1 hj (by omega) ?_ (fl_lim bP M1 (by omega)) (fl_lim bV M1 (by omega)) (tn_far hG (htb (ds j))) (fun S2 D2 h2 s2 r2 => next S2 D2 h2 (s1.tr (s2.wk (fun r hr => ⟨j, hj, hr⟩) (fun r hr => hr))) (fun d t hd ht => ?_))
      · intro d' p t hd' hp ht
        rw [s1.2.1 _ (fun ⟨q1, q2, q3⟩ => by omega)]
        exact hpn d' p t hd' hp ht
      · by_cases cd : d = j
        · rw [if_pos cd, cd, r2 t ht]
          rfl
        · rw [if_neg cd, s2.2.1 _ (by omega)]
  · rintro S1 _ k9 ⟨rfl, D1, h1, s1, r1⟩
    unfold wX7_strikePins_b2
    refine ⟨c_is h1, A (1 + 3), rep_fr h1 (451, 0, 4) (by decide), ls_is h1 (by decide), p_size h1 (j := 3) (by decide) (if_p ?_ (kk S1 D1 h1 s1 (fun d t hd ht => by rw [r1 d t hd ht, if_pos hd])))⟩
    rw [hlen]
    exact nI_le (Nat.le_refl _) (by omega)
end CP9
