/-! LINKS AND MOTIONS of the class -/
def sec (G : Nat → Nat → Nat) (k : Nat) : Int32 := if G k 0 = 112 then nI (G k 2) else -1
def LkC (G : Nat → Nat → Nat) (nl : Nat) (D : Dt) : Prop := ∀ k, k < nl → D.FI 320 (400 + k) = nI k ∧ D.FI 321 (400 + k) = nI (G k 0) ∧ D.FI 322 (400 + k) = nI (G k 1) ∧ D.FI 323 (400 + k) = sec G k ∧ D.FI 324 (400 + k) = nI (G k 3) ∧ D.FI 325 (400 + k) = nI (G k 4) ∧ D.FI 326 (400 + k) = nI (G k 5)
def LkS (G : Nat → Nat → Nat) (S : Hp) (q k : Nat) : Prop := isA S q 5 ∧ S.FI 320 q = nI k ∧ S.FI 321 q = nI (G k 0) ∧ S.FI 322 q = nI (G k 1) ∧ S.FI 323 q = sec G k ∧ S.FI 324 q = nI (G k 3) ∧ S.FI 325 q = nI (G k 4) ∧ S.FI 326 q = nI (G k 5)
def RowV (D : Dt) (p n : Nat) (V : Nat → Rat) : Prop := ∀ i, i < n → Fq (D.AJ (30 + 2 * p) i) (D.AJ (31 + 2 * p) i) (V i)
def vup (V : Nat → Rat) (i : Nat) (q : Rat) : Nat → Rat := fun j => if j = i then q else V j
def bI (b : Bool) : Int32 := if b then 1 else 0
def ovz (G : Nat → Nat → Nat) (k : Nat) : Int := if G k 0 = 103 then -(G k 4 : Int) else if G k 0 = 105 ∨ G k 0 = 112 then G k 4 else 1
def unz (G : Nat → Nat → Nat) (k : Nat) : Nat := if G k 0 = 103 ∨ G k 0 = 105 then G k 5 else if G k 0 = 112 then G k 4 + G k 5 else if G k 0 = 118 then G k 4 else 1
theorem nI_iff {a b : Nat} (ha : a < 2 ^ 31) (hb : b < 2 ^ 31) : nI a = nI b ↔ a = b := by
  refine ⟨fun e => ?_, fun e => by rw [e]⟩
  have e2 := congrArg Int32.toNatClampNeg e
  rw [nI_clamp ha, nI_clamp hb] at e2
  exact e2
theorem nI64 {n : Nat} (h : n < 2 ^ 31) : (nI n).toInt64 = i6 n := by
  rw [i6_32, nI_toInt h]
theorem rowV_put {D : Dt} {p n i : Nat} {V : Nat → Rat} {q : Rat} (h : RowV D p n V) : RowV (putQ D p i q) p n (vup V i q) := by
  intro j hj
  have h1 := h j hj
  unfold putQ Dt.setAJ vup
  show Fq (up2 (up2 D.AJ (30 + 2 * p) i (i6 q.num)) (31 + 2 * p) i (i6 q.den) (30 + 2 * p) j) (up2 (up2 D.AJ (30 + 2 * p) i (i6 q.num)) (31 + 2 * p) i (i6 q.den) (31 + 2 * p) j) _
  by_cases e : j = i
  · rw [if_pos e, e, up2_n (fun z => by omega), up2_s, up2_s]
    exact ⟨rfl, rfl⟩
  · rw [if_neg e, up2_n (fun z => e z.2), up2_n (fun z => e z.2), up2_n (fun z => e z.2), up2_n (fun z => e z.2)]
    exact h1
theorem putQ_AJ {D : Dt} {p i r : Nat} {q : Rat} (h1 : r ≠ 30 + 2 * p) (h2 : r ≠ 31 + 2 * p) : (putQ D p i q).AJ r = D.AJ r := by
  unfold putQ Dt.setAJ
  show up2 (up2 D.AJ (30 + 2 * p) i (i6 q.num)) (31 + 2 * p) i (i6 q.den) r = _
  rw [up2_row h2, up2_row h1]
theorem rowV_other {D D' : Dt} {p n : Nat} {V : Nat → Rat} (h : RowV D p n V) (h1 : D'.AJ (30 + 2 * p) = D.AJ (30 + 2 * p)) (h2 : D'.AJ (31 + 2 * p) = D.AJ (31 + 2 * p)) : RowV D' p n V := by
  intro i hi
  rw [h1, h2]
  exact h i hi
theorem rowV_put2 {D : Dt} {p p' n i : Nat} {V : Nat → Rat} {q : Rat} (h : RowV D p n V) (hp : p ≠ p') : RowV (putQ D p' i q) p n V := rowV_other h (putQ_AJ (by omega) (by omega)) (putQ_AJ (by omega) (by omega))
theorem rowV_congr {D : Dt} {p n : Nat} {V V' : Nat → Rat} (h : RowV D p n V) (e : ∀ i, i < n → V i = V' i) : RowV D p n V' := fun i hi => by
  rw [← e i hi]
  exact h i hi
def SamJ (X : Nat → Prop) (D D' : Dt) : Prop := D'.FI = D.FI ∧ D'.FJ = D.FJ ∧ D'.AI = D.AI ∧ ∀ r, ¬ X r → D'.AJ r = D.AJ r
theorem SamJ.rf {X : Nat → Prop} {D : Dt} : SamJ X D D := ⟨rfl, rfl, rfl, fun _ _ => rfl⟩
theorem SamJ.tr {X : Nat → Prop} {D D' D'' : Dt} (h : SamJ X D D') (h' : SamJ X D' D'') : SamJ X D D'' := ⟨h'.1.trans h.1, h'.2.1.trans h.2.1, h'.2.2.1.trans h.2.2.1, fun r hr => (h'.2.2.2 r hr).trans (h.2.2.2 r hr)⟩
theorem SamJ.wk {X Y : Nat → Prop} {D D' : Dt} (h : SamJ X D D') (hXY : ∀ r, X r → Y r) : SamJ Y D D' := ⟨h.1, h.2.1, h.2.2.1, fun r hr => h.2.2.2 r (fun q => hr (hXY r q))⟩
theorem samJ_put {X : Nat → Prop} {D : Dt} {p i : Nat} {q : Rat} (h1 : X (30 + 2 * p)) (h2 : X (31 + 2 * p)) : SamJ X D (putQ D p i q) := ⟨rfl, rfl, rfl, fun r hr => putQ_AJ (fun e => hr (e ▸ h1)) (fun e => hr (e ▸ h2))⟩
theorem samJ_set {X : Nat → Prop} {D : Dt} {r i : Nat} {v : Int64} (h1 : X r) : SamJ X D (D.setAJ r i v) := ⟨rfl, rfl, rfl, fun _ hr => up2_row (fun e => hr (e ▸ h1))⟩
theorem lkC_sam {G : Nat → Nat → Nat} {nl : Nat} {D D' : Dt} (h : LkC G nl D) (e : D'.FI = D.FI) : LkC G nl D' := by
  unfold LkC at *
  rw [e]
  exact h
/-- an unreduced part of a bound -/
theorem bp_mul {M B : Nat} {q : Rat} {o : Int} {u : Nat} (hu : 0 < u) (h : Bq M B q) : Bp (M * u) (B * o.natAbs) (q.num * o) (q.den * u) := by
  obtain ⟨h0, m, h1, h2⟩ := h
  refine ⟨Nat.mul_pos h0 hu, m, ?_, ?_⟩
  · rw [h1]
    ac_rfl
  · rw [Int.natAbs_mul]
    have : q.num.natAbs * o.natAbs * m = q.num.natAbs * m * o.natAbs := by ac_rfl
    rw [this]
    exact Nat.mul_le_mul_right _ h2
theorem q_unred {q : Rat} {o : Int} {u : Nat} (hu : 0 < u) : Rat.divInt (q.num * o) ((q.den * u : Nat) : Int) = q * (o : Rat) / (u : Rat) := by
  have h1 : q * (o : Rat) / (u : Rat) = Rat.divInt q.num q.den * Rat.divInt o u := by
    rw [q_self, Rat.divInt_eq_div]
    have e : ((u : Int) : Rat) = (u : Rat) := rfl
    rw [e, Rat.div_def, Rat.div_def, Rat.mul_assoc]
  rw [h1, Rat.divInt_mul_divInt, Int.natCast_mul]
section LM9
variable {A E : Nat → Nat} {ls : Nat → List Nat} {nl nc nd : Nat} {S : Hp} {D : Dt} {G : Nat → Nat → Nat}
theorem kdr_link {k : Nat} (h : k < 16) : kdr (400 + k) = 5 := by
  have : ∀ k, k < 16 → kdr (400 + k) = 5 := by decide
  exact this k h
theorem lkS_of (h : Rep A E ls nl nc nd S D) (hC : LkC G nl D) {k : Nat} (hk : k < nl) (hk16 : k < 16) : LkS G S (A (400 + k)) k := by
  obtain ⟨h1, h2, h3, h4, h5, h6, h7⟩ := hC k hk
  have ha : al nl nc nd (400 + k) := al_l hk
  refine ⟨rep_is h ha (kdr_link hk16), ?_, ?_, ?_, ?_, ?_, ?_, ?_⟩
  · rw [rep_FI h 320 (by decide) ha, h1]
  · rw [rep_FI h 321 (by decide) ha, h2]
  · rw [rep_FI h 322 (by decide) ha, h3]
  · rw [rep_FI h 323 (by decide) ha, h4]
  · rw [rep_FI h 324 (by decide) ha, h5]
  · rw [rep_FI h 325 (by decide) ha, h6]
  · rw [rep_FI h 326 (by decide) ha, h7]
theorem p_hasSecond {Φ : Hp → Int32 → Prop} {q k : Nat} (h : LkS G S q k) (hs : G k 0 = 112 → G k 2 < 14) (k1 : G k 0 = 112 → Φ S 1) (k0 : G k 0 ≠ 112 → Φ S 0) : wX5_hasSecond S q Φ := by
  obtain ⟨g1, g2, g3, g4, g5, g6, g7, g8⟩ := h
  unfold wX5_hasSecond wX5_hasSecond_b0
  rw [g5]
  unfold sec
  by_cases c : G k 0 = 112
  · rw [if_pos c]
    exact ⟨g1, if_n (nI_pos (by have := hs c; omega)) (k1 c)⟩
  · rw [if_neg c]
    exact ⟨g1, if_p (by decide) (k0 c)⟩
theorem kOK_lt {k : Nat} (h : kOK G k) : G k 0 < 200 ∧ G k 4 ≤ 30 ∧ G k 5 ≤ 30 := by
  unfold kOK at h
  omega
theorem nI_lit {a b : Nat} (ha : a < 200) (hb : b < 200) : nI a = nI b ↔ a = b := nI_iff (by omega) (by omega)
theorem p_over {Φ : Hp → Int32 → Prop} {q k : Nat} (h : LkS G S q k) (hk : kOK G k) (kk : ∀ v : Int32, v.toInt64 = i6 (ovz G k) → v.toInt = ovz G k → Φ S v) : wX5_over S q Φ := by
  obtain ⟨g1, g2, g3, g4, g5, g6, g7, g8⟩ := h
  obtain ⟨k0, k4, k5⟩ := kOK_lt hk
  have e : ∀ n, n < 200 → ((nI (G k 0) = nI n) ↔ G k 0 = n) := fun n hn => nI_lit k0 hn
  have t4 : (nI (G k 4)).toInt = (G k 4 : Int) := nI_toInt (by omega)
  have fin : ∀ v : Int32, v.toInt = ovz G k → Φ S v := fun v hv => kk v (by rw [i6_32, hv]) hv
  unfold wX5_over wX5_over_b0 wX5_over_b33
  rw [g3, g7]
  refine ⟨g1, ?_⟩
  unfold ovz at fin
  by_cases c1 : G k 0 = 103
  · rw [if_pos c1] at fin
    refine fi_p ((e 103 (by decide)).mpr c1) (fin _ ?_)
    rw [Int32.toInt_neg, t4]
    have : (2 ^ 32 : Int) = 4294967296 := rfl
    exact Int.bmod_eq_of_le (by omega) (by omega)
  · rw [if_neg c1] at fin
    refine fi_n (fun z => c1 ((e 103 (by decide)).mp z)) ?_
    by_cases c2 : G k 0 = 105
    · rw [if_pos (Or.inl c2)] at fin
      exact if_p ((e 105 (by decide)).mpr c2) ⟨g1, fin _ t4⟩
    · refine if_n (fun z => c2 ((e 105 (by decide)).mp z)) ?_
      by_cases c3 : G k 0 = 112
      · rw [if_pos (Or.inr c3)] at fin
        exact fi_p ((e 112 (by decide)).mpr c3) ⟨g1, fin _ t4⟩
      · rw [if_neg (by omega)] at fin
        exact fi_n (fun z => c3 ((e 112 (by decide)).mp z)) (fin _ rfl)
theorem p_under {Φ : Hp → Int32 → Prop} {q k : Nat} (h : LkS G S q k) (hk : kOK G k) (kk : Φ S (nI (unz G k))) : wX5_under S q Φ := by
  obtain ⟨g1, g2, g3, g4, g5, g6, g7, g8⟩ := h
  obtain ⟨k0, k4, k5⟩ := kOK_lt hk
  have e : ∀ n, n < 200 → ((nI (G k 0) = nI n) ↔ G k 0 = n) := fun n hn => nI_lit k0 hn
  unfold wX5_under wX5_under_b0
  rw [g3, g7, g8]
  refine ⟨g1, ?_⟩
  unfold unz at kk
  by_cases c1 : G k 0 = 103
  · rw [if_pos (Or.inl c1)] at kk
    exact if_p ((e 103 (by decide)).mpr c1) kk
  · refine if_n (fun z => c1 ((e 103 (by decide)).mp z)) ?_
    by_cases c2 : G k 0 = 105
    · rw [if_pos (Or.inr c2)] at kk
      exact fi_p ((e 105 (by decide)).mpr c2) kk
    · rw [if_neg (by omega)] at kk
      refine fi_n (fun z => c2 ((e 105 (by decide)).mp z)) ?_
      by_cases c3 : G k 0 = 112
      · rw [if_pos c3] at kk
        refine fi_p ((e 112 (by decide)).mpr c3) ?_
        have e2 : nI (G k 4) + nI (G k 5) = nI (G k 4 + G k 5) := (Int32.ofNat_add _ _).symm
        rw [e2]
        exact kk
      · rw [if_neg c3] at kk
        refine fi_n (fun z => c3 ((e 112 (by decide)).mp z)) ?_
        by_cases c4 : G k 0 = 118
        · rw [if_pos c4] at kk
          exact fi_p ((e 118 (by decide)).mpr c4) kk
        · rw [if_neg c4] at kk
          exact fi_n (fun z => c4 ((e 118 (by decide)).mp z)) kk
theorem unz_pos {k : Nat} (hk : kOK G k) : 0 < unz G k ∧ unz G k ≤ 60 := by
  unfold unz
  unfold kOK at hk
  split
  · omega
  · split
    · omega
    · split <;> omega
theorem putQ_2 {p i : Nat} {q q' : Rat} : putQ (putQ D p i q) p i q' = putQ D p i q' := by
  unfold putQ Dt.setAJ
  show Dt.mk D.FI D.FJ D.AI _ = Dt.mk D.FI D.FJ D.AI _
  congr 1
  funext x j
  show up2 (up2 (up2 (up2 D.AJ (30 + 2 * p) i (i6 q.num)) (31 + 2 * p) i (i6 q.den)) (30 + 2 * p) i (i6 q'.num)) (31 + 2 * p) i (i6 q'.den) x j = up2 (up2 D.AJ (30 + 2 * p) i (i6 q'.num)) (31 + 2 * p) i (i6 q'.den) x j
  unfold up2
  by_cases c1 : x = 31 + 2 * p ∧ j = i
  · simp only [if_pos c1]
  · by_cases c2 : x = 30 + 2 * p ∧ j = i
    · simp only [if_neg c1, if_pos c2]
    · simp only [if_neg c1, if_neg c2]
/-- what a link carries of what stands at its sources -/
def cry (G : Nat → Nat → Nat) (k : Nat) (ov : Int) (V : Nat → Rat) : Rat := V (G k 1) * (ov : Rat) / (unz G k : Rat) + (if G k 0 = 112 then V (G k 2) * (G k 5 : Rat) / (unz G k : Rat) else 0)
theorem bd_imul {M B : Nat} {q : Rat} (o : Int) (h : Bd M B q) : Bd M (B * o.natAbs) (q * (o : Rat)) := by
  obtain ⟨X, a1, a2⟩ := h
  refine ⟨X * o, ?_, ?_⟩
  · have e : q * (o : Rat) * (M : Rat) = q * (M : Rat) * (o : Rat) := by grind
    rw [e, a1, Rat.intCast_mul]
  · rw [Int.natAbs_mul]
    exact Nat.mul_le_mul_right _ a2
theorem p_carry {Φ : Hp → Prop} {ns p k M B1 B2 B3 : Nat} {lv : Nat → Nat} {ov : Int} {x : Int32} {V : Nat → Rat} (h : Rep A E ls nl nc nd S D) (hp : p < 11) (hn : rn p = 14) (hC : LkC G nl D) (hG : GrOK ns nl G) (hL : Lev nl G lv) (hk : k < nl)
    (hx : x.toInt64 = i6 ov) (hV : RowV D p 14 V) (hb1 : Bd (M * unz G k) B1 (V (G k 3))) (hb2 : Bd M B2 (V (G k 1))) (hb3 : G k 0 = 112 → Bd M B3 (V (G k 2))) (hM0 : 0 < M) (hM : M * 60 < 9223372036854775808) (hB : B1 + B2 * ov.natAbs + B3 * 30 < 9223372036854775808)
    (kk : ∀ S', Rep A E ls nl nc nd S' (putQ D p (G k 3) (V (G k 3) + cry G k ov V)) → Φ S') : wX5_carry S (A (400 + k)) (A (9 + p)) x Φ := by
  obtain ⟨hns, hnl, hg, -⟩ := hG
  obtain ⟨hkk, hf, hs, ht⟩ := hg k hk
  obtain ⟨hu0, hu60⟩ := unz_pos hkk
  obtain ⟨kk0, kk4, kk5⟩ := kOK_lt hkk
  have hMu : M * unz G k ≤ M * 60 := Nat.mul_le_mul_left _ hu60
  have hMu0 : 0 < M * unz G k := Nat.mul_pos hM0 hu0
  have hft : G k 3 ≠ G k 1 := fun e => by
    have := hL.1 k (G k 1) hk (Or.inl rfl)
    rw [e] at this
    omega
  have lk := lkS_of h hC hk (by omega)
  have i14 : ∀ i, i < ns → i < rn p := fun i hi => by
    rw [hn]
    omega
  have q1 := bd_bq hMu0 hb1
  have q2 := bd_bq hM0 hb2
  unfold wX5_carry wX5_carry_b0
  refine ⟨lk.1, (row_ h hp).1, ?_⟩
  rw [lk.2.2.2.1]
  refine p_overAt h hp (i14 _ hf) ⟨lk.1, (row_ h hp).1, ?_⟩
  rw [lk.2.2.2.1]
  refine p_underAt h hp (i14 _ hf) ⟨lk.1, p_under lk hkk ⟨(row_ h hp).1, ?_⟩⟩
  rw [lk.2.2.2.2.2.1, (hV _ (by omega)).1, (hV _ (by omega)).2, hx, nI64 (by omega), i6_mul, i6_mul, ← Int.natCast_mul]
  refine p_add h hp (i14 _ ht) (hV _ (by omega)) q1 (bp_mul hu0 q2) hMu0 (by omega) (by omega) (fun S12 h12 => ?_)
  rw [q_unred hu0] at h12
  have hC12 : LkC G nl (putQ D p (G k 3) (V (G k 3) + V (G k 1) * (ov : Rat) / (unz G k : Rat))) := hC
  have lk12 := lkS_of h12 hC12 hk (by omega)
  refine ⟨lk12.1, p_hasSecond lk12 (fun e => by have := hs e; omega) (fun hpl => if_n (by decide) ?_) (fun hpl => if_p rfl (kk S12 ?_))⟩
  · have hst : G k 2 ≠ G k 3 := fun e => by
      have := hL.1 k (G k 2) hk (Or.inr ⟨hpl, rfl⟩)
      rw [e] at this
      omega
    have hs' := hs hpl
    have hV12 := rowV_put (i := G k 3) (q := V (G k 3) + V (G k 1) * (ov : Rat) / (unz G k : Rat)) hV
    have v1 := hV12 (G k 2) (by omega)
    have v2 := hV12 (G k 3) (by omega)
    unfold vup at v1 v2
    rw [if_neg hst] at v1
    rw [if_pos rfl] at v2
    have hsec : sec G k = nI (G k 2) := if_pos hpl
    refine ⟨lk12.1, (row_ h12 hp).1, ?_⟩
    rw [lk12.2.2.2.2.1, hsec]
    refine p_overAt h12 hp (i14 _ hs') ⟨lk12.1, (row_ h12 hp).1, ?_⟩
    rw [lk12.2.2.2.2.1, hsec]
    refine p_underAt h12 hp (i14 _ hs') ⟨lk12.1, p_under lk12 hkk ⟨(row_ h12 hp).1, ?_⟩⟩
    rw [lk12.2.2.2.2.2.1, lk12.2.2.2.2.2.2.2, v1.1, v1.2, nI64 (by omega), nI64 (by omega), i6_mul, i6_mul, ← Int.natCast_mul]
    have b4 := bd_bq hMu0 (bd_add hb1 (bd_div hu0 (bd_imul ov hb2)))
    have b5 := bp_mul (o := (G k 5 : Int)) hu0 (bd_bq hM0 (hb3 hpl))
    have b6 : B3 * (G k 5 : Int).natAbs ≤ B3 * 30 := Nat.mul_le_mul_left _ (by omega)
    refine p_add h12 hp (i14 _ ht) v2 b4 b5 hMu0 (by omega) (by omega) (fun S29 h29 => kk S29 ?_)
    rw [q_unred hu0, putQ_2] at h29
    have e : V (G k 3) + cry G k ov V = V (G k 3) + V (G k 1) * (ov : Rat) / (unz G k : Rat) + V (G k 2) * ((G k 5 : Int) : Rat) / (unz G k : Rat) := by
      unfold cry
      rw [if_pos hpl, Rat.add_assoc]
      rfl
    rw [e]
    exact h29
  · have e : V (G k 3) + cry G k ov V = V (G k 3) + V (G k 1) * (ov : Rat) / (unz G k : Rat) := by
      unfold cry
      rw [if_neg hpl, Rat.add_zero]
    rw [e]
    exact h12
/-! motions -/
theorem mot_ (h : Rep A E ls nl nc nd S D) {m : Nat} (hm : m < 3) : isA S (A (20 + m)) 6 ∧ S.FR 384 (A (20 + m)) = some (A (9 + (2 + 3 * m))) ∧ S.FR 385 (A (20 + m)) = some (A (9 + (3 + 3 * m))) ∧ S.FR 386 (A (20 + m)) = some (A (9 + (4 + 3 * m))) ∧ S.FR 387 (A (20 + m)) = some (A (60 + m)) ∧ S.FR 388 (A (20 + m)) = some (A (63 + m)) ∧ isA S (A (60 + m)) 22 ∧ isA S (A (63 + m)) 23 ∧ S.N (A (60 + m)) = 16 ∧ S.N (A (63 + m)) = 16 := by
  have hs : ∀ m, m < 3 → sdr (20 + m) = true ∧ kdr (20 + m) = 6 ∧ (384, 20 + m, 9 + (2 + 3 * m)) ∈ rfT ∧ (385, 20 + m, 9 + (3 + 3 * m)) ∈ rfT := by decide
  have hs3 : ∀ m, m < 3 → (386, 20 + m, 9 + (4 + 3 * m)) ∈ rfT ∧ (387, 20 + m, 60 + m) ∈ rfT ∧ (388, 20 + m, 63 + m) ∈ rfT := by decide
  have hs2 : ∀ m, m < 3 → sdr (60 + m) = true ∧ sdr (63 + m) = true ∧ kdr (60 + m) = 22 ∧ kdr (63 + m) = 23 ∧ ndr (60 + m) = 16 ∧ ndr (63 + m) = 16 := by decide
  obtain ⟨h1, h2, h3, h4⟩ := hs m hm
  obtain ⟨h5, h6, h7⟩ := hs3 m hm
  obtain ⟨h8, h9, h10, h11, h12, h13⟩ := hs2 m hm
  exact ⟨rep_is h (al_s h1) h2, rep_fr h _ h3, rep_fr h _ h4, rep_fr h _ h5, rep_fr h _ h6, rep_fr h _ h7, rep_is h (al_s h8) h10, rep_is h (al_s h9) h11, rep_N h (al_s h8) h12, rep_N h (al_s h9) h13⟩
theorem mot_al {m : Nat} (hm : m < 3) : al nl nc nd (60 + m) ∧ al nl nc nd (63 + m) := by
  have hs : ∀ m, m < 3 → sdr (60 + m) = true ∧ sdr (63 + m) = true := by decide
  exact ⟨al_s (hs m hm).1, al_s (hs m hm).2⟩
theorem p_mhas {Φ : Hp → Int32 → Prop} {q k : Nat} (h : LkS G S q k) (hk : k < 16) (kk : Φ S 1) : wX6_has S q Φ := by
  unfold wX6_has wX6_has_b0
  rw [h.2.1]
  exact ⟨h.1, if_n (nI_pos (by omega)) (if_n (nI_ge (b := 16) hk (by decide)) kk)⟩
theorem p_doesActM {Φ : Hp → Int32 → Prop} {q k m : Nat} (h : Rep A E ls nl nc nd S D) (hm : m < 3) (hq : LkS G S q k) (hk : k < 16) (k0 : D.AI (63 + m) k = 0 → Φ S 0) (k1 : D.AI (63 + m) k ≠ 0 → Φ S 1) : wX6_doesAct S (A (20 + m)) q Φ := by
  obtain ⟨m1, m2, m3, m4, m5, m6, m7, m8, m9, m10⟩ := mot_ h hm
  unfold wX6_doesAct wX6_doesAct_b0
  refine p_mhas hq hk (if_n (by decide) ⟨m1, _, m6, hq.1, m8, ?_⟩)
  rw [m10, hq.2.1, cl_nI (by omega), rep_AI h k (mot_al hm).2]
  exact ⟨in_nI hk (by decide), k0, k1⟩
theorem nb_bI (b : Bool) : nb (bI b) := by
  cases b
  · exact ⟨rfl, rfl⟩
  · exact ⟨rfl, rfl⟩
theorem p_setActs {Φ : Hp → Prop} {q k m : Nat} {v : Int32} (h : Rep A E ls nl nc nd S D) (hm : m < 3) (hq : LkS G S q k) (hk : k < 16) (hv : nb v) (kk : ∀ S', Rep A E ls nl nc nd S' (D.setAI (63 + m) k v) → Φ S') : wX6_setActs S (A (20 + m)) q v Φ := by
  obtain ⟨m1, m2, m3, m4, m5, m6, m7, m8, m9, m10⟩ := mot_ h hm
  unfold wX6_setActs wX6_setActs_b0
  refine p_mhas hq hk (if_n (by decide) ⟨m1, _, m6, hq.1, m8, ?_, hv, fun S10 e10 => kk S10 ?_⟩)
  · rw [m10, hq.2.1]
    exact in_nI hk (by decide)
  · rw [e10, hq.2.1, cl_nI (by omega)]
    exact set_AI h k v (mot_al hm).2
theorem p_doesActL {Φ : Hp → Int32 → Prop} {q : Nat} {eng brk : Bool} (hq : isA S q 5) (he : S.FI 327 q = bI eng) (hb : S.FI 328 q = bI brk) (kk : Φ S (bI (eng && !brk))) : wX5_doesAct S q Φ := by
  unfold wX5_doesAct wX5_doesAct_b0
  rw [he, hb]
  refine ⟨hq, ?_⟩
  cases eng <;> cases brk
  · exact if_p (by decide) kk
  · exact if_p (by decide) kk
  · exact if_n (by decide) (fi_p (by decide) kk)
  · exact if_n (by decide) (fi_n (by decide) kk)
end LM9
