/-! HEIGHTS, STEEPNESS: the class -/
def FrQ (S : Hp) (a : Nat) (q : Rat) : Prop := isA S a 3 ∧ S.FJ 192 a = i6 q.num ∧ S.FJ 193 a = i6 q.den
def cmB (x : Cm) (i : Nat) : Nat := if i = 0 then cmH x (cmN x - 1) else cmH x (i - 1)
def hden (x : Cm) (i : Nat) : Nat := if cmW x i = 117 then cmL x i else cmL x i * cmL x i
def hgon (x : Cm) (i b : Nat) : Int := if cmW x i = 117 then (b : Int) else if 2 * b ≤ cmL x i then 2 * (b : Int) * b else (cmL x i : Int) * cmL x i - 2 * ((cmL x i : Int) - b) * ((cmL x i : Int) - b)
def hnum (x : Cm) (i b : Nat) : Int := (cmB x i : Int) * (hden x i : Nat) + ((cmH x i : Int) - cmB x i) * hgon x i b
def hgt (x : Cm) (i b : Nat) : Rat := Rat.divInt (hnum x i b) (hden x i : Nat)
def stp (x : Cm) : Nat → Nat × Nat
  | 0 => (0, 1)
  | i + 1 => if (stp x i).1 * cmL x i < ris (cmW x i) (cmB x i) (cmH x i) * (stp x i).2 then (ris (cmW x i) (cmB x i) (cmH x i), cmL x i) else stp x i
def stq (x : Cm) : Rat := Rat.divInt ((stp x (cmN x)).1 : Nat) ((stp x (cmN x)).2 : Nat)
theorem cmB_le {ns i : Nat} {x : Cm} (hK : CmK ns x) (hi : i < cmN x) : cmB x i ≤ 99 := by
  unfold cmB
  by_cases c : i = 0
  · rw [if_pos c]
    exact (hK.2.2.1 _ (by omega)).2.1
  · rw [if_neg c]
    exact (hK.2.2.1 _ (by omega)).2.1
theorem hden_b {ns i : Nat} {x : Cm} (hK : CmK ns x) (hi : i < cmN x) : 0 < hden x i ∧ hden x i ≤ 576 := by
  have h1 := (hK.2.2.1 i hi).1
  have h2 := cmK_l hK hi
  have h3 : cmL x i * cmL x i ≤ 24 * 24 := Nat.mul_le_mul h2 h2
  have h4 : 0 < cmL x i * cmL x i := Nat.mul_pos h1 h1
  unfold hden
  by_cases c : cmW x i = 117
  · rw [if_pos c]
    omega
  · rw [if_neg c]
    omega
theorem sq_le {a b : Int} {n : Nat} (ha : a.natAbs ≤ n) (hb : b.natAbs ≤ n) : (a * b).natAbs ≤ n * n := by
  rw [Int.natAbs_mul]
  exact Nat.mul_le_mul ha hb
theorem hgon_b {ns i b : Nat} {x : Cm} (hK : CmK ns x) (hi : i < cmN x) (hb : b ≤ cmL x i) : (hgon x i b).natAbs ≤ 2304 := by
  have h2 := cmK_l hK hi
  have q1 : (2 * (b : Int) * b).natAbs ≤ 48 * 48 := sq_le (by omega) (by omega)
  have q2 : ((cmL x i : Int) * cmL x i).natAbs ≤ 24 * 24 := sq_le (by omega) (by omega)
  have q3 : (2 * ((cmL x i : Int) - b) * ((cmL x i : Int) - b)).natAbs ≤ 48 * 48 := sq_le (by omega) (by omega)
  have q4 : (2 * ((cmL x i : Int) - b) * ((cmL x i : Int) - b)) ≥ 0 := by
    rw [Int.mul_assoc]
    exact Int.mul_nonneg (by decide) (Int.mul_nonneg (by omega) (by omega))
  have q5 : ((cmL x i : Int) * cmL x i) ≥ 0 := Int.mul_nonneg (by omega) (by omega)
  unfold hgon
  by_cases c : cmW x i = 117
  · rw [if_pos c]
    omega
  · rw [if_neg c]
    by_cases c2 : 2 * b ≤ cmL x i
    · rw [if_pos c2]
      exact q1
    · rw [if_neg c2]
      omega
theorem hnum_b {ns i b : Nat} {x : Cm} (hK : CmK ns x) (hi : i < cmN x) (hb : b ≤ cmL x i) : (hnum x i b).natAbs ≤ 600000 := by
  have h0 := cmB_le hK hi
  have h1 := (hK.2.2.1 i hi).2.1
  have h2 := (hden_b hK hi).2
  have h3 := hgon_b hK hi hb
  have q1 : ((cmB x i : Int) * (hden x i : Nat)).natAbs ≤ 99 * 576 := by
    rw [Int.natAbs_mul, Int.natAbs_natCast, Int.natAbs_natCast]
    exact Nat.mul_le_mul h0 h2
  have q2 : (((cmH x i : Int) - cmB x i) * hgon x i b).natAbs ≤ 99 * 2304 := by
    rw [Int.natAbs_mul]
    exact Nat.mul_le_mul (by omega) h3
  unfold hnum
  omega
theorem rg_sm {z : Int} (h : z.natAbs ≤ 100000000) : Rg z := by
  unfold Rg
  omega
theorem stp_b {ns : Nat} {x : Cm} (hK : CmK ns x) : ∀ i, i ≤ cmN x → (stp x i).1 ≤ 198 ∧ 1 ≤ (stp x i).2 ∧ (stp x i).2 ≤ 24
  | 0, _ => ⟨by show 0 ≤ 198; decide, by show 1 ≤ 1; decide, by show 1 ≤ 24; decide⟩
  | i + 1, h => by
    have ih := stp_b hK i (by omega)
    unfold stp
    by_cases c : (stp x i).1 * cmL x i < ris (cmW x i) (cmB x i) (cmH x i) * (stp x i).2
    · rw [if_pos c]
      refine ⟨?_, (hK.2.2.1 i (by omega)).1, cmK_l hK (by omega)⟩
      have h0 := cmB_le hK (i := i) (by omega)
      have h1 := (hK.2.2.1 i (by omega)).2.1
      have : ris (cmW x i) (cmB x i) (cmH x i) ≤ 2 * 99 := by
        unfold ris
        refine Nat.mul_le_mul ?_ (by omega)
        by_cases cw : cmW x i = 112
        · rw [if_pos cw]
          exact Nat.le_refl _
        · rw [if_neg cw]
          decide
      exact this
    · rw [if_neg c]
      exact ih
theorem sg_ex {f : Nat → Nat} {part : Nat} : ∀ n, part < sumN f n → ∃ i, i < n ∧ sumN f i ≤ part ∧ part < sumN f (i + 1)
  | 0, h => absurd h (Nat.not_lt_zero part)
  | n + 1, h => by
    by_cases c : part < sumN f n
    · obtain ⟨i, i1, i2, i3⟩ := sg_ex n c
      exact ⟨i, by omega, i2, i3⟩
    · exact ⟨n, by omega, by omega, h⟩
section HC9
variable {A E : Nat → Nat} {ls : Nat → List Nat} {nl nc nd : Nat} {S : Hp} {D : Dt}
theorem p_frac {Φ : Hp → Prop} {a : Nat} {N Dn : Int} (h : Rep A E ls nl nc nd S D) (ha : a ∉ S.L) (hN : Rg N) (hD : Rg Dn) (h0 : 0 < Dn) (kk : ∀ S', Rep A E ls nl nc nd S' D → FrQ S' a (Rat.divInt N Dn) → (∀ b q, FrQ S b q → FrQ S' b q) → (∀ b k, isA S b k → isA S' b k) → Φ S') : wX3_init (S.new a 3 0) a (i6 N) (i6 Dn) Φ := by
  have g0 := gcd_pos_r (N := N) h0
  have rg := rg_gcd (N := N) h0 hD
  have hn := rep_new h 3 0 ha
  have hoff := off_new h ha
  have is3 : isA (S.new a 3 0) a 3 := new_isA
  unfold wX3_init wX3_init_b0
  refine p_commonOf hN hD ?_
  have ne : ¬ lg_cmp (i6 (Int.gcd N Dn : Nat)) 0 = 0 := fun q => by
    rw [i6_0] at q
    have := (cmp_eq rg rg_0).mp q
    omega
  have ne2 : ¬ i6 (Int.gcd N Dn : Nat) = 0 := i6_ne rg (by omega)
  unfold wX3_init_b27 wX3_init_b46
  refine fi_n ne ⟨ne2, is3, fun S2 e2 => fi_n ne ⟨ne2, ?_, fun S3 e3 => ?_⟩⟩
  · rw [e2]
    exact is3
  rw [i6_div hN rg (Int.gcd_dvd_left _ _), ← nf_num N h0] at e2
  rw [i6_div hD rg (Int.gcd_dvd_right _ _), ← nf_den N h0] at e3
  have r2 : Rep A E ls nl nc nd S2 D := by
    rw [e2]
    exact off_FJ hn _ hoff
  have r3 : Rep A E ls nl nc nd S3 D := by
    rw [e3]
    exact off_FJ r2 _ hoff
  refine kk S3 r3 ⟨?_, ?_, ?_⟩ (fun b q hb => ?_) (fun b k hb => ?_)
  · rw [e3, e2]
    exact is3
  · rw [e3, hpFJ_n (by omega), e2, hpFJ_s]
  · rw [e3, hpFJ_s]
  · have hne : b ≠ a := fun e => ha (e ▸ hb.1.1)
    have hne' : ∀ i, S3.FJ i b = S.FJ i b := fun i => by
      rw [e3, hpFJ_n (fun q => hne q.2), e2, hpFJ_n (fun q => hne q.2)]
      exact if_neg hne
    refine ⟨?_, ?_, ?_⟩
    · rw [e3, e2]
      exact new_old (n := 0) ha hb.1
    · rw [hne']
      exact hb.2.1
    · rw [hne']
      exact hb.2.2
  · rw [e3, e2]
    exact new_old (n := 0) ha hb
theorem p_startOf {Φ : Hp → Int32 → Prop} {ns c i : Nat} {x : Cm} (h : Rep A E ls nl nc nd S D) (hc : c < nc) (hc8 : c < 8) (hx : CmC x c D) (hK : CmK ns x) (hi : i < cmN x) (kk : Φ S (nI (cmB x i))) : wX1_startOf S (A (500 + 5 * c)) (nI i) Φ := by
  obtain ⟨l0, l1, l2, l3, l4⟩ := cam_al (nl := nl) (nd := nd) hc
  obtain ⟨g0, f1, f2, f3, f4, g1, g2, g3, g4, n1, n2, n3, n4⟩ := cam_ h hc hc8
  have n24 := cmK_n hK
  have go : ∀ j, j < cmN x → Φ S (nI (cmH x j)) → wX1_startOf_b16 (A (500 + 5 * c)) (nI i) Φ S (nI j) := fun j hj k => by
    unfold wX1_startOf_b16
    have v : S.AI (A (502 + 5 * c)) (nI j).toNatClampNeg = nI (cmH x j) := rd_I h l2 (by omega) (hx.2.2.2.1 j hj).2.1
    refine if_n (nI_pos (by omega)) (if_n (nI_ge (b := 24) (show j < 24 by omega) (by decide)) ⟨g0, _, f2, g2, by rw [n2]; exact in_nI (by omega) (by decide), ?_⟩)
    rw [v]
    exact k
  unfold wX1_startOf wX1_startOf_b0
  unfold cmB at kk
  by_cases c0 : i = 0
  · rw [if_pos c0] at kk
    refine fi_p (by rw [c0]; rfl) ⟨g0, ?_⟩
    have v69 : S.FI 69 (A (500 + 5 * c)) = nI (cmN x) := (rep_FI h 69 (by decide) l0).trans hx.2.1
    rw [v69, wI_p (by omega)]
    exact go _ (by omega) kk
  · rw [if_neg c0] at kk
    rw [wI_p c0]
    exact fi_n (fun q => c0 ((nI_iff (b := 0) (by omega) (by decide)).mp q)) (go _ (by omega) kk)
theorem p_heightWithin {Φ : Hp → Option Nat → Prop} {ns c i b : Nat} {x : Cm} (h : Rep A E ls nl nc nd S D) (hc : c < nc) (hc8 : c < 8) (hx : CmC x c D) (hK : CmK ns x) (hi : i < cmN x) (hb : b ≤ cmL x i) (kk : ∀ S' a, Rep A E ls nl nc nd S' D → FrQ S' a (hgt x i b) → (∀ b q, FrQ S b q → FrQ S' b q) → Φ S' (some a)) : wX1_heightWithin S (A (500 + 5 * c)) (nI i) (nI b) Φ := by
  obtain ⟨l0, l1, l2, l3, l4⟩ := cam_al (nl := nl) (nd := nd) hc
  obtain ⟨g0, f1, f2, f3, f4, g1, g2, g3, g4, n1, n2, n3, n4⟩ := cam_ h hc hc8
  have n24 := cmK_n hK
  have i24 : ∀ n, n = 24 → vp_in (nI i) n := fun n e => by
    rw [e]
    exact in_nI (by omega) (by decide)
  have v1 : S.AI (A (501 + 5 * c)) (nI i).toNatClampNeg = nI (cmL x i) := rd_I h l1 (by omega) (hx.2.2.2.1 i hi).1
  have v2 : S.AI (A (502 + 5 * c)) (nI i).toNatClampNeg = nI (cmH x i) := rd_I h l2 (by omega) (hx.2.2.2.1 i hi).2.1
  have v3 : S.AI (A (503 + 5 * c)) (nI i).toNatClampNeg = nI (cmW x i) := rd_I h l3 (by omega) (hx.2.2.2.1 i hi).2.2
  have hL := cmK_l hK hi
  obtain ⟨hL1, hH, hW⟩ := hK.2.2.1 i hi
  have hB := cmB_le hK hi
  have hnb := hnum_b hK hi hb
  have hdb := hden_b hK hi
  have hgb := hgon_b hK hi hb
  unfold wX1_heightWithin wX1_heightWithin_b0
  refine ⟨g0, p_startOf h hc hc8 hx hK hi ⟨g0, _, f2, g2, i24 _ n2, _, f1, g1, i24 _ n1, _, f3, g3, i24 _ n3, ?_⟩⟩
  rw [v1, v2, v3, nI64 (by omega), nI64 (by omega), nI64 (by omega), nI64 (by omega)]
  have fin : ∀ Nz Dz : Int, Nz = hnum x i b → Dz = (hden x i : Nat) → ∀ a, a ∉ S.L → ∀ S2, S2 = S.new a 3 0 → wX3_init S2 a (i6 Nz) (i6 Dz) (fun S3 => Φ S3 (some a)) := fun Nz Dz e1 e2 a ha S2 e => by
    rw [e, e1, e2]
    exact p_frac h ha (rg_sm (by omega)) (rg_n (by omega)) (by omega) (fun S' r' q' k1 _ => kk S' a r' q' k1)
  by_cases cw : cmW x i = 117
  · refine fi_p (by rw [cw]; rfl) (fun a16 S17 ha e17 => ?_)
    rw [i6_sub, i6_mul, i6_mul, i6_add]
    refine fin _ _ ?_ ?_ a16 ha S17 e17
    · unfold hnum hden hgon
      rw [if_pos cw, if_pos cw]
    · unfold hden
      rw [if_pos cw]
  · have w112 : cmW x i = 112 := hW.resolve_left cw
    refine fi_n (by rw [w112]; decide) ?_
    have e2b : (2 * nI b).toInt64 = i6 ((2 * b : Nat) : Int) := by
      rw [show (2 : Int32) = nI 2 from rfl, nI_mul, nI64 (by omega)]
    have cmp : (0 < lg_cmp (2 * nI b).toInt64 (i6 ((cmL x i : Nat) : Int))) ↔ ((cmL x i : Nat) : Int) < ((2 * b : Nat) : Int) := by
      rw [e2b]
      exact cmp_gt (rg_n (by omega)) (rg_n (by omega))
    have eh : ∀ g : Int, g = hgon x i b → (cmB x i : Int) * ((cmL x i : Int) * (cmL x i : Int)) + ((cmH x i : Int) - (cmB x i : Int)) * g = hnum x i b := fun g hg => by
      unfold hnum hden
      rw [if_neg cw, hg, Int.natCast_mul]
    have ed : (cmL x i : Int) * (cmL x i : Int) = (hden x i : Nat) := by
      unfold hden
      rw [if_neg cw, Int.natCast_mul]
    unfold wX1_heightWithin_b106
    by_cases c2 : 2 * b ≤ cmL x i
    · refine if_n (fun q => by have := cmp.mp q; omega) (fun a1 S2 ha e => ?_)
      rw [i6_2, i6_sub, i6_mul, i6_mul, i6_mul, i6_mul, i6_mul, i6_add]
      refine fin _ _ (eh _ ?_) ed a1 ha S2 e
      unfold hgon
      rw [if_neg cw, if_pos c2]
    · refine if_p (cmp.mpr (by omega)) (fun a1 S2 ha e => ?_)
      rw [i6_2, i6_sub, i6_sub, i6_mul, i6_mul, i6_mul, i6_mul, i6_sub, i6_mul, i6_add]
      refine fin _ _ (eh _ ?_) ed a1 ha S2 e
      unfold hgon
      rw [if_neg cw, if_neg c2]
theorem p_heightAt {Φ : Hp → Option Nat → Prop} {ns c i part : Nat} {x : Cm} (h : Rep A E ls nl nc nd S D) (hc : c < nc) (hc8 : c < 8) (hx : CmC x c D) (hK : CmK ns x) (hi : i < cmN x) (h1 : sumN (cmL x) i ≤ part) (h2 : part ≤ sumN (cmL x) (i + 1)) (h3 : part < sumN (cmL x) (i + 1) ∨ i + 1 = cmN x) (hp : part ≤ 24) (kk : ∀ S' a, Rep A E ls nl nc nd S' D → FrQ S' a (hgt x i (part - sumN (cmL x) i)) → (∀ b q, FrQ S b q → FrQ S' b q) → Φ S' (some a)) : wX1_heightAt S (A (500 + 5 * c)) (nI part) Φ := by
  obtain ⟨l0, l1, l2, l3, l4⟩ := cam_al (nl := nl) (nd := nd) hc
  obtain ⟨g0, f1, f2, f3, f4, g1, g2, g3, g4, n1, n2, n3, n4⟩ := cam_ h hc hc8
  have n24 := cmK_n hK
  have v69 : S.FI 69 (A (500 + 5 * c)) = nI (cmN x) := (rep_FI h 69 (by decide) l0).trans hx.2.1
  unfold wX1_heightAt wX1_heightAt_b0
  refine it3_ex (fun j S1 a v => S1 = S ∧ v = nI j ∧ a = nI (part - sumN (cmL x) j)) i ?_ ?_ ⟨rfl, rfl, rfl⟩
  · rintro j hj S1 _ _ k9 ⟨rfl, rfl, rfl⟩ hk9
    have mono := sumN_mono (f := cmL x) (m := j + 1) i (by omega)
    rw [sumN_s] at mono
    have v1 : S1.AI (A (501 + 5 * c)) (nI j).toNatClampNeg = nI (cmL x j) := rd_I h l1 (by omega) (hx.2.2.2.1 j (by omega)).1
    have hL := cmK_l hK (j := j) (by omega)
    have i24 : ∀ n, n = 24 → vp_in (nI j) n := fun n e => by
      rw [e]
      exact in_nI (by omega) (by decide)
    unfold wX1_heightAt_b4
    rw [v69]
    refine ⟨g0, if_n (nI_ge (by omega) (by omega)) ⟨_, f1, g1, i24 _ n1, ?_⟩⟩
    rw [v1]
    refine if_n (nI_nlt (by omega) (by omega)) ?_
    rw [wI_p (by omega)]
    refine fi_n (fun q => by have := (nI_iff (by omega) (by omega)).mp q; omega) ⟨_, f1, g1, i24 _ n1, ?_⟩
    rw [v1, nI_sub (by omega), ← nI_succ]
    refine hk9 _ _ _ ⟨rfl, rfl, ?_⟩
    rw [sumN_s, Nat.sub_sub]
  · rintro S1 _ _ k9 ⟨rfl, rfl, rfl⟩
    have v1 : S1.AI (A (501 + 5 * c)) (nI i).toNatClampNeg = nI (cmL x i) := rd_I h l1 (by omega) (hx.2.2.2.1 i hi).1
    have hL := cmK_l hK hi
    rw [sumN_s] at h2 h3
    have i24 : ∀ n, n = 24 → vp_in (nI i) n := fun n e => by
      rw [e]
      exact in_nI (by omega) (by decide)
    have last : wX1_heightAt_b32 (A (500 + 5 * c)) (nI part) Φ S1 (nI (part - sumN (cmL x) i)) (nI i) := by
      unfold wX1_heightAt_b32
      exact ⟨g0, p_heightWithin h hc hc8 hx hK hi (by omega) (fun S' a r' q' k' => ⟨a, rfl, kk S' a r' q' k'⟩)⟩
    unfold wX1_heightAt_b4
    rw [v69]
    refine ⟨g0, if_n (nI_ge hi (by omega)) ⟨_, f1, g1, i24 _ n1, ?_⟩⟩
    rw [v1]
    by_cases cl : part - sumN (cmL x) i < cmL x i
    · exact if_p (nI_lt cl (by omega)) last
    · refine if_n (nI_nlt (by omega) (by omega)) ?_
      rw [wI_p (by omega)]
      exact fi_p (by rw [show cmN x - 1 = i by omega]) last
theorem p_wholeCamAt {Φ : Hp → Option Nat → Prop} {Ψ : Hp → String → Prop} {ns : Nat} {x1 : Int32} {K : Nat → Cm} (h : Rep A E ls nl nc nd S D) (hls : ls 2 = (List.range nc).map (fun c => A (500 + 5 * c))) (h8 : nc ≤ 8) (hx : ∀ c, c < nc → CmC (K c) c D ∧ CmK ns (K c))
    (kt1 : ¬ inR x1 nc → Ψ S "java/lang/IndexOutOfBoundsException") (kt2 : ∀ c, c < nc → x1 = nI c → sumN (cmL (K c)) (cmN (K c)) ≠ 24 → Ψ S "java/lang/UnsupportedOperationException")
    (kk : ∀ c, c < nc → x1 = nI c → sumN (cmL (K c)) (cmN (K c)) = 24 → Φ S (some (A (500 + 5 * c)))) : wX7_wholeCamAt S (A 0) x1 Φ Ψ := by
  unfold wX7_wholeCamAt wX7_wholeCamAt_b0
  refine ⟨c_is h, p_camAt h hls h8 (fun c hc e => ⟨_, rfl, (cam_ h hc (by omega)).1, ?_⟩) kt1⟩
  obtain ⟨hC, hK⟩ := hx c hc
  obtain ⟨l0, l1, l2, l3, l4⟩ := cam_al (nl := nl) (nd := nd) hc
  have v70 : S.FI 70 (A (500 + 5 * c)) = nI (sumN (cmL (K c)) (cmN (K c))) := (rep_FI h 70 (by decide) l0).trans hC.2.2.1
  have := hK.2.1
  unfold wX1_isWhole wX1_isWhole_b0
  rw [v70]
  refine ⟨(cam_ h hc (by omega)).1, ?_⟩
  by_cases cs : sumN (cmL (K c)) (cmN (K c)) = 24
  · exact fi_p (by rw [cs]; rfl) (fi_n (by decide) (kk c hc e cs))
  · exact fi_n (fun q => cs ((nI_iff (b := 24) (by omega) (by decide)).mp q)) (fi_p rfl (kt2 c hc e cs))
/-- where a cam's shaft stands, in parts -/
def prt (P : Nat → Rat) (s : Nat) : Nat := (fl 24 (P s) % 24).toNat
theorem prt_lt (P : Nat → Rat) (s : Nat) : prt P s < 24 := by
  unfold prt
  have h1 := Int.emod_lt_of_pos (fl 24 (P s)) (b := 24) (by decide)
  have h2 := Int.emod_nonneg (fl 24 (P s)) (b := 24) (by decide)
  omega
theorem prt_e (P : Nat → Rat) (s : Nat) : fl 24 (P s) % 24 = (prt P s : Nat) := by
  unfold prt
  have h2 := Int.emod_nonneg (fl 24 (P s)) (b := 24) (by decide)
  omega
/-- the height of a whole cam at a part -/
def HtQ (x : Cm) (part : Nat) (q : Rat) : Prop := ∃ i, i < cmN x ∧ sumN (cmL x) i ≤ part ∧ part < sumN (cmL x) (i + 1) ∧ q = hgt x i (part - sumN (cmL x) i)
theorem p_heightNow {Φ : Hp → Option Nat → Prop} {ns n c : Nat} {G : Nat → Nat → Nat} {P : Nat → Rat} {x : Cm} (h : Rep A E ls nl nc nd S D) (hG : GrOK ns nl G) (hc : c < nc) (hc8 : c < 8) (hx : CmC x c D) (hK : CmK ns x) (hw : sumN (cmL x) (cmN x) = 24) (hP : RowV D 2 14 P) (hB : BdP G nl n P) (hn : n ≤ 24600)
    (kk : ∀ S' a q, Rep A E ls nl nc nd S' D → HtQ x (prt P (cmS x)) q → FrQ S' a q → Φ S' (some a)) : wX7_heightNow S (A 0) (A (500 + 5 * c)) Φ := by
  obtain ⟨l0, l1, l2, l3, l4⟩ := cam_al (nl := nl) (nd := nd) hc
  obtain ⟨g0, f1, f2, f3, f4, g1, g2, g3, g4, n1, n2, n3, n4⟩ := cam_ h hc hc8
  have h14 := hG.1
  have hs := hK.1
  have v64 : S.FI 64 (A (500 + 5 * c)) = nI (cmS x) := (rep_FI h 64 (by decide) l0).trans hx.1
  obtain ⟨M1, M2, M3⟩ := pm_lt hG (cmS x)
  have q1 := qn_le M3 hn
  have bq := bd_bq M1 (hB (cmS x))
  have rg := bq_rg bq M1 M2 (by omega) 24 (by decide)
  have lim := fl_lim bq M1 (by omega)
  unfold wX7_heightNow wX7_heightNow_b0
  refine ⟨c_is h, A 20, rep_fr h (458, 0, 20) (by decide), (mot_ h (m := 0) (by decide)).1, A 11, (mot_ h (m := 0) (by decide)).2.1, g0, (row_ h (p := 2) (by decide)).1, ?_⟩
  rw [v64]
  refine p_wholeTimes (p := 2) (t := 24) h (by decide) (by show cmS x < 14; omega) (hP _ (by omega)) rg.1 rg.2.2.1 (by decide) ?_
  refine p_floorMod (n := fl 24 (P (cmS x))) (d := 24) (by unfold Rg; omega) rg_24 (by decide) ⟨g0, ?_⟩
  rw [prt_e]
  have lt := prt_lt P (cmS x)
  have e32 : (i6 ((prt P (cmS x) : Nat) : Int)).toInt32 = nI (prt P (cmS x)) := by
    apply Int32.toInt_inj.mp
    rw [Int64.toInt_toInt32, to_i6 (rg_n (by omega)), nI_toInt (by omega), Int.bmod_eq_of_le (by omega) (by omega)]
  rw [e32]
  obtain ⟨i, i1, i2, i3⟩ := sg_ex (f := cmL x) (part := prt P (cmS x)) (cmN x) (by omega)
  exact p_heightAt h hc hc8 hx hK i1 i2 (by omega) (Or.inl i3) (by omega) (fun S' a r' q' _ => ⟨a, rfl, kk S' a _ r' ⟨i, i1, i2, i3, rfl⟩ q'⟩)
theorem p_steepest {Φ : Hp → Option Nat → Prop} {ns c : Nat} {x : Cm} (h : Rep A E ls nl nc nd S D) (hc : c < nc) (hc8 : c < 8) (hx : CmC x c D) (hK : CmK ns x) (kk : ∀ S' a, Rep A E ls nl nc nd S' D → FrQ S' a (stq x) → Φ S' (some a)) : wX1_steepest S (A (500 + 5 * c)) Φ := by
  obtain ⟨l0, l1, l2, l3, l4⟩ := cam_al (nl := nl) (nd := nd) hc
  obtain ⟨g0, f1, f2, f3, f4, g1, g2, g3, g4, n1, n2, n3, n4⟩ := cam_ h hc hc8
  have n24 := cmK_n hK
  have v69 : S.FI 69 (A (500 + 5 * c)) = nI (cmN x) := (rep_FI h 69 (by decide) l0).trans hx.2.1
  unfold wX1_steepest wX1_steepest_b0
  refine it4_ex (fun j S1 a b v => S1 = S ∧ v = nI j ∧ a = i6 ((stp x j).1 : Nat) ∧ b = i6 ((stp x j).2 : Nat)) (cmN x) ?_ ?_ ⟨rfl, rfl, rfl, rfl⟩
  · rintro j hj S1 _ _ _ k9 ⟨rfl, rfl, rfl, rfl⟩ hk9
    have sb := stp_b hK j (by omega)
    have hL := cmK_l hK hj
    obtain ⟨hL1, hH, hW⟩ := hK.2.2.1 j hj
    have hB := cmB_le hK hj
    have i24 : ∀ n, n = 24 → vp_in (nI j) n := fun n e => by
      rw [e]
      exact in_nI (by omega) (by decide)
    have v1 : S1.AI (A (501 + 5 * c)) (nI j).toNatClampNeg = nI (cmL x j) := rd_I h l1 (by omega) (hx.2.2.2.1 j hj).1
    have v2 : S1.AI (A (502 + 5 * c)) (nI j).toNatClampNeg = nI (cmH x j) := rd_I h l2 (by omega) (hx.2.2.2.1 j hj).2.1
    have v3 : S1.AI (A (503 + 5 * c)) (nI j).toNatClampNeg = nI (cmW x j) := rd_I h l3 (by omega) (hx.2.2.2.1 j hj).2.2
    unfold wX1_steepest_b7 wX1_steepest_b72
    rw [v69]
    refine ⟨g0, if_n (nI_ge hj (by omega)) (p_startOf h hc hc8 hx hK hj ⟨g0, _, f2, g2, i24 _ n2, _, f3, g3, i24 _ n3, ?_⟩)⟩
    rw [v2, v3]
    refine p_steepRise (by omega) (by omega) hW ⟨g0, _, f1, g1, i24 _ n1, ?_⟩
    rw [v1]
    have rb : ris (cmW x j) (cmB x j) (cmH x j) ≤ 2 * 99 := by
      unfold ris
      refine Nat.mul_le_mul ?_ (by omega)
      by_cases cw : cmW x j = 112
      · rw [if_pos cw]
        exact Nat.le_refl _
      · rw [if_neg cw]
        decide
    have m1 : ris (cmW x j) (cmB x j) (cmH x j) * (stp x j).2 ≤ 198 * 24 := Nat.mul_le_mul rb sb.2.2
    have m2 : (stp x j).1 * cmL x j ≤ 198 * 24 := Nat.mul_le_mul sb.1 hL
    rw [nI64 (by omega), nI64 (by omega), i6_mul, i6_mul, ← Int.natCast_mul, ← Int.natCast_mul]
    have cmp := cmp_le (a := ((ris (cmW x j) (cmB x j) (cmH x j) * (stp x j).2 : Nat) : Int)) (b := (((stp x j).1 * cmL x j : Nat) : Int)) (rg_n (by omega)) (rg_n (by omega))
    by_cases cl : (stp x j).1 * cmL x j < ris (cmW x j) (cmB x j) (cmH x j) * (stp x j).2
    · refine if_n (fun q => by have := cmp.mp q; omega) ⟨_, f1, g1, i24 _ n1, ?_⟩
      rw [v1, nI64 (by omega), ← nI_succ]
      have es : stp x (j + 1) = (ris (cmW x j) (cmB x j) (cmH x j), cmL x j) := if_pos cl
      refine hk9 _ _ _ _ ⟨rfl, rfl, ?_, ?_⟩
      · rw [es]
      · rw [es]
    · refine if_p (cmp.mpr (by omega)) ?_
      rw [← nI_succ]
      have es : stp x (j + 1) = stp x j := if_neg cl
      refine hk9 _ _ _ _ ⟨rfl, rfl, ?_, ?_⟩
      · rw [es]
      · rw [es]
  · rintro S1 _ _ _ k9 ⟨rfl, rfl, rfl, rfl⟩
    have sb := stp_b hK (cmN x) (Nat.le_refl _)
    unfold wX1_steepest_b7
    rw [v69]
    refine ⟨g0, if_p (nI_le (Nat.le_refl _) (by omega)) (fun a S4 ha e4 => ?_)⟩
    rw [e4]
    exact p_frac h ha (rg_n (by omega)) (rg_n (by omega)) (by omega) (fun S' r' q' _ _ => kk S' a r' q')
end HC9
