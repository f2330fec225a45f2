/-! ONE STEP OF THE LAW: written by wip/p45/gen/own33c.py -/
theorem frac24 {wy : Int} (h : wy = 1 ∨ wy = -1) : (Rat.divInt wy 24).num = wy ∧ (Rat.divInt wy 24).den = 24 := by
  rcases h with rfl | rfl <;> decide +kernel
theorem zero_q {c : Rat} : (0 : Rat) / c = 0 := by
  rw [Rat.div_def, Rat.zero_mul]
theorem ctr_zero45 {G : Nat → Nat → Nat} {j : Nat} {t X : Nat → Rat} {m : Int} (hk : kOK G j) (np : G j 0 ≠ 112) (h0 : t (G j 1) = 0) (hR : G j 0 = 114 → fl (G j 4 : Nat) (X (G j 1)) ≤ m) : ctr G j t X m = 0 ∧ mkn G j (X (G j 1) + t (G j 1)) m = m := by
  have hk2 : G j 0 = 103 ∨ G j 0 = 105 ∨ G j 0 = 107 ∨ G j 0 = 118 ∨ G j 0 = 114 := by
    unfold kOK at hk
    omega
  have mk0 : G j 0 ≠ 114 → mkn G j (X (G j 1) + t (G j 1)) m = m := fun n => by
    unfold mkn
    rw [if_neg n]
  rcases hk2 with c | c | c | c | c
  · refine ⟨?_, mk0 (by omega)⟩
    rw [ctr_g c, h0, Rat.zero_mul, zero_q, Rat.neg_zero]
  · refine ⟨?_, mk0 (by omega)⟩
    rw [ctr_i c, h0, Rat.zero_mul, zero_q]
  · refine ⟨?_, mk0 (by omega)⟩
    rw [ctr_k c, h0]
  · refine ⟨?_, mk0 (by omega)⟩
    rw [ctr_v c, h0, Rat.add_zero, Int.sub_self]
    exact zero_q
  · have hr := hR c
    refine ⟨?_, ?_⟩
    · rw [ctr_r c, h0, Rat.add_zero]
      have e : max 0 (fl (G j 4 : Nat) (X (G j 1)) - m) = 0 := by omega
      rw [e]
      exact zero_q
    · unfold mkn
      rw [if_pos c, h0, Rat.add_zero]
      omega
/-- the class's own, and the law's lasting arrays -/
def SamN45 (X : Nat → Prop) (D D' : Dt) : Prop := (∀ r, r < 512 → D'.AI r = D.AI r) ∧ ∀ r, r < 512 → ¬ X r → D'.AJ r = D.AJ r
theorem SamN45.tr {X : Nat → Prop} {D D' D'' : Dt} (h : SamN45 X D D') (h' : SamN45 X D' D'') : SamN45 X D D'' := ⟨fun r hr => (h'.1 r hr).trans (h.1 r hr), fun r hr hx => (h'.2 r hr hx).trans (h.2 r hr hx)⟩
theorem SamN45.rf {X : Nat → Prop} {D : Dt} : SamN45 X D D := ⟨fun _ _ => rfl, fun _ _ _ => rfl⟩
def XM5 (r : Nat) : Prop := 505 ≤ r ∧ r < 510
section ST45
variable {A E : Nat → Nat} {ls : Nat → List Nat} {ns nl nc n : Nat} {G : Nat → Nat → Nat} {P W : Nat → Rat} {mk : Nat → Int} {aact : Nat → Bool} {ol : List Nat} {S : Hp} {D : Dt} {x0 : Nat → Int32} {L9 : Nat} {v13 v14 v15 v16 v19 : Int32}
/-- from the links' shares on -/
theorem p_rest {k670 : KA45} {k747 : KB45} {κ a b : Nat → Nat} {X t W0 : Nat → Rat} {act : Nat → Bool} (h : ZA A E ls ns nl 14 n G P W mk aact ol S D) (hD : LD45 κ a b D) (hH : GH κ a b G) (hK : HK κ a b) (hact : ∀ k, k < 3 → act k = true) (e4 : t 4 = t 1 * (a 2 : Rat) / ((a 2 + b 2 : Nat) : Rat) + t 3 * (b 2 : Rat) / ((a 2 + b 2 : Nat) : Rat))
    (sX : ∀ s, s < 5 → Sz (X s)) (st : ∀ s, s < 5 → Sz (t s)) (s1d : (t 1).den ≤ 100000) (sW : ∀ l, l < 3 → Sz (W0 l)) (sW1 : Sz (W0 2 + aq (t 1))) (hX : ∀ s, s < 5 → Fr45 D 505 s (X s)) (hW : ∀ l, l < 3 → Fr45 D 507 l (W0 l)) (ht : ∀ s, s < 4 → Fr45 D 512 s (t s))
    (kk : ∀ S' D', ZA A E ls ns nl 14 n G P W mk aact ol S' D' → SamL (fun r => (505 ≤ r ∧ r < 509) ∨ r = 512 ∨ r = 513) D D' → (∀ s, s < 5 → Fr45 D' 505 s (X s + t s)) → (∀ l, l < 3 → Fr45 D' 507 l (wnx G act t W0 l)) → k747 S' (A 0) 1 (A 500) (A 501) (A 502) (A 503) (A 504) (A 505) (A 506) (A 507) (A 508) (A 509) v13 v14 v15 v16 (A 510) (A 511) (v19 + 1)) : wL_law_b1111 x0 L9 k670 k747 S (A 0) 1 (A 500) (A 501) (A 502) (A 503) (A 504) (A 505) (A 506) (A 507) (A 508) (A 509) v13 v14 v15 v16 (A 510) (A 511) v19 (A 512) (A 513) := by
  refine p_planL h hD hK (ht 1 (by decide)) (ht 3 (by decide)) (st 1 (by decide)) s1d (st 3 (by decide)) e4 (fun S1 D1 h1 s1 f1 o1 => ?_)
  have ht1 : ∀ s, s < 5 → Fr45 D1 512 s (t s) := fun s hs => by
    by_cases c : s = 4
    · rw [c]
      exact f1
    · exact (ht s (by omega)).at (o1 s c)
  refine p_wearL h1 (hD.cg (fun r _ _ => by rw [s1.1])) hH hK hact (fun l hl => (hW l hl).cg (s1.2 _ (by decide)) (s1.2 _ (by decide))) ht1 sW sW1 st (fun S2 D2 h2 s2 f2 => ?_)
  refine p_places h2 (fun s hs => ((hX s hs).cg (s1.2 _ (by decide)) (s1.2 _ (by decide))).cg (s2.2 _ (by decide)) (s2.2 _ (by decide))) (fun s hs => (ht1 s hs).cg (s2.2 _ (by decide)) (s2.2 _ (by decide))) sX st (fun S3 D3 h3 s3 f3 => ?_)
  exact kk S3 D3 h3 (((s1.wk (fun r hr => by omega)).tr (s2.wk (fun r hr => by omega))).tr (s3.wk (fun r hr => by omega))) f3 (fun l hl => (f2 l hl).cg (s3.2 _ (by decide)) (s3.2 _ (by decide)))
theorem p_step {k670 : KA45} {k747 : KB45} {κ a b : Nat → Nat} {inp : Nat} {wy : Int} {X t W0 : Nat → Rat} {m m' : Nat → Int} (h : ZA A E ls 5 3 12 n G P W mk aact ol S D) (hD : LD45 κ a b D) (hH : GH κ a b G) (hK : HK κ a b) (hinp : inp = 0 ∨ inp = 3) (e14 : v14 = nI inp) (e16 : v16.toInt64 = i6 wy) (hwy : wy = 1 ∨ wy = -1) (hlt : ¬ (v15 * v16) ≤ v19)
    (hst : StepEq G 3 (onL 3) X m inp wy t m') (hR : RI G 3 (onL 3) X m) (sX : ∀ s, Sz (X s)) (st : ∀ s, Sz (t s)) (s1d : (t 1).den ≤ 100000) (sW : ∀ l, l < 3 → Sz (W0 l)) (sW1 : Sz (W0 2 + aq (t 1))) (hm4 : ∀ j, j < 3 → (m j).natAbs ≤ 4000000000000000000)
    (hX : ∀ s, s < 5 → Fr45 D 505 s (X s)) (hW : ∀ l, l < 3 → Fr45 D 507 l (W0 l)) (hmm : ∀ j, j < 2 → D.AJ 509 j = i6 (m j))
    (kk : ∀ S' A' D', ZA A' E ls 5 3 12 n G P W mk aact ol S' D' → SamA 3 12 A A' → SamN45 XM5 D D' → (∀ s, s < 5 → Fr45 D' 505 s (X s + t s)) → (∀ l, l < 3 → Fr45 D' 507 l (wnx G (onL 3) t W0 l)) → (∀ j, j < 2 → D'.AJ 509 j = i6 (m' j)) → k747 S' (A' 0) 1 (A' 500) (A' 501) (A' 502) (A' 503) (A' 504) (A' 505) (A' 506) (A' 507) (A' 508) (A' 509) v13 v14 v15 v16 (A' 510) (A' 511) (v19 + 1)) : wL_law_b747 x0 L9 k670 k747 S (A 0) 1 (A 500) (A 501) (A 502) (A 503) (A 504) (A 505) (A 506) (A 507) (A 508) (A 509) v13 v14 v15 v16 (A 510) (A 511) v19 := by
  subst e14
  have hG := h.2.2.1.1.1
  have hi5 : inp < 5 := by omega
  unfold wL_law_b747
  refine if_n hlt ?_
  intro a2 S3 f2 e3 a4 S5 f4 e5
  obtain ⟨A1, D1, h1, sa1, q1, -, z1J, o1⟩ := h.born (nc := 12) (k := 22) (m := 5) (by decide) f2 (by decide) (by decide)
  rw [← e3] at h1
  obtain ⟨A2, D2, h2, sa2, q2, -, -, o2⟩ := h1.born (k := 22) (m := 5) (by decide) f4 (by decide) (by decide)
  rw [← e5] at h2
  have h2 : ZA A2 E ls 5 3 14 n G P W mk aact ol S5 D2 := h2
  have lt512 : ∀ r, al 3 12 0 r → r < 512 := fun r hr => by
    rcases hr with hr | hr | hr | hr
    · have := sdr_lt hr
      omega
    · omega
    · omega
    · omega
  have hA : SamA 3 12 A A2 := fun r hr => (sa2 r (by have := lt512 r hr; omega) (al_sub (Nat.le_refl _) (by decide) (Nat.le_refl _) hr)).trans (sa1 r (by have := lt512 r hr; omega) hr)
  have a5 : ∀ r, 500 ≤ r → r < 512 → A r = A2 r := fun r h1 h2 => (hA.a h1 h2).symm
  have e512 : a2 = A2 512 := q1.symm.trans (sa2 512 (by decide) (Or.inr (Or.inr (Or.inl ⟨by decide, by decide⟩)))).symm
  have e513 : a4 = A2 513 := q2.symm
  rw [e512, e513, show A 0 = A2 0 from hA.z.symm, a5 500 (by decide) (by decide), a5 501 (by decide) (by decide), a5 502 (by decide) (by decide), a5 503 (by decide) (by decide), a5 504 (by decide) (by decide), a5 505 (by decide) (by decide), a5 506 (by decide) (by decide), a5 507 (by decide) (by decide), a5 508 (by decide) (by decide), a5 509 (by decide) (by decide), a5 510 (by decide) (by decide), a5 511 (by decide) (by decide)]
  have c0 : ((0 : Int32).toNatClampNeg) = 0 := cl_nI (i := 0) (by decide)
  have c1 : ((1 : Int32).toNatClampNeg) = 1 := cl_nI (i := 1) (by decide)
  have c2 : ((2 : Int32).toNatClampNeg) = 2 := cl_nI (i := 2) (by decide)
  have c3 : ((3 : Int32).toNatClampNeg) = 3 := cl_nI (i := 3) (by decide)
  have c4 : ((4 : Int32).toNatClampNeg) = 4 := cl_nI (i := 4) (by decide)
  have ci : ((nI inp).toNatClampNeg) = inp := cl_nI (by omega)
  refine ⟨h2.in (r := 513) (i := 0) (by decide) (by decide) rfl (by decide) (by decide), fun S7 e7 => ?_⟩
  rw [c0] at e7
  have h7 := h2.setAJ (r := 513) 0 1 (by decide) (by decide)
  rw [← e7] at h7
  refine ⟨h7.in (r := 513) (i := 1) (by decide) (by decide) rfl (by decide) (by decide), fun S9 e9 => ?_⟩
  rw [c1] at e9
  have h9 := h7.setAJ (r := 513) 1 1 (by decide) (by decide)
  rw [← e9] at h9
  refine ⟨h9.in (r := 513) (i := 2) (by decide) (by decide) rfl (by decide) (by decide), fun S11 e11 => ?_⟩
  rw [c2] at e11
  have h11 := h9.setAJ (r := 513) 2 1 (by decide) (by decide)
  rw [← e11] at h11
  refine ⟨h11.in (r := 513) (i := 3) (by decide) (by decide) rfl (by decide) (by decide), fun S13 e13 => ?_⟩
  rw [c3] at e13
  have h13 := h11.setAJ (r := 513) 3 1 (by decide) (by decide)
  rw [← e13] at h13
  refine ⟨h13.in (r := 513) (i := 4) (by decide) (by decide) rfl (by decide) (by decide), fun S15 e15 => ?_⟩
  rw [c4] at e15
  have h15 := h13.setAJ (r := 513) 4 1 (by decide) (by decide)
  rw [← e15] at h15
  refine ⟨h15.in (r := 512) (by decide) (by decide) rfl hi5 (by decide), fun S17 e17 => ?_⟩
  rw [ci, e16] at e17
  have h17 := h15.setAJ (r := 512) inp (i6 wy) (by decide) (by decide)
  rw [← e17] at h17
  refine ⟨h17.in (r := 513) (by decide) (by decide) rfl hi5 (by decide), fun S19 e19 => ?_⟩
  rw [ci] at e19
  have h19 := h17.setAJ (r := 513) inp 24 (by decide) (by decide)
  rw [← e19] at h19
  have a513 : ∀ s, s < 5 → (((((((D2.setAJ 513 0 1).setAJ 513 1 1).setAJ 513 2 1).setAJ 513 3 1).setAJ 513 4 1).setAJ 512 inp (i6 wy)).setAJ 513 inp 24).AJ 513 s = if s = inp then 24 else 1 := fun s hs => by
    by_cases c : s = inp
    · rw [if_pos c, c]
      exact dtAJ_s
    · rw [if_neg c]
      refine (dtAJ_n (fun q => c q.2)).trans ((dtAJ_n (by omega)).trans ?_)
      rcases (show s = 4 ∨ s = 3 ∨ s = 2 ∨ s = 1 ∨ s = 0 by omega) with rfl | rfl | rfl | rfl | rfl
      · exact dtAJ_s
      · exact (dtAJ_n (by omega)).trans dtAJ_s
      · exact (dtAJ_n (by omega)).trans ((dtAJ_n (by omega)).trans dtAJ_s)
      · exact (dtAJ_n (by omega)).trans ((dtAJ_n (by omega)).trans ((dtAJ_n (by omega)).trans dtAJ_s))
      · exact (dtAJ_n (by omega)).trans ((dtAJ_n (by omega)).trans ((dtAJ_n (by omega)).trans ((dtAJ_n (by omega)).trans dtAJ_s)))
  have a512 : ∀ s, (((((((D2.setAJ 513 0 1).setAJ 513 1 1).setAJ 513 2 1).setAJ 513 3 1).setAJ 513 4 1).setAJ 512 inp (i6 wy)).setAJ 513 inp 24).AJ 512 s = if s = inp then i6 wy else 0 := fun s => by
    refine (dtAJ_n (by omega)).trans ?_
    by_cases c : s = inp
    · rw [if_pos c, c]
      exact dtAJ_s
    · rw [if_neg c]
      refine (dtAJ_n (fun q => c q.2)).trans ((dtAJ_n (by omega)).trans ((dtAJ_n (by omega)).trans ((dtAJ_n (by omega)).trans ((dtAJ_n (by omega)).trans ((dtAJ_n (by omega)).trans ?_)))))
      rw [(o2 512 (by decide)).2]
      exact z1J s
  have oth : ∀ r, r < 512 → (((((((D2.setAJ 513 0 1).setAJ 513 1 1).setAJ 513 2 1).setAJ 513 3 1).setAJ 513 4 1).setAJ 512 inp (i6 wy)).setAJ 513 inp 24).AJ r = D.AJ r := fun r hr => by
    refine (up2_row (show r ≠ 513 by omega)).trans ((up2_row (show r ≠ 512 by omega)).trans ((up2_row (show r ≠ 513 by omega)).trans ((up2_row (show r ≠ 513 by omega)).trans ((up2_row (show r ≠ 513 by omega)).trans ((up2_row (show r ≠ 513 by omega)).trans ((up2_row (show r ≠ 513 by omega)).trans ?_))))))
    exact (o2 r (by omega)).2.trans (o1 r (by omega)).2
  have othI : ∀ r, r < 512 → (((((((D2.setAJ 513 0 1).setAJ 513 1 1).setAJ 513 2 1).setAJ 513 3 1).setAJ 513 4 1).setAJ 512 inp (i6 wy)).setAJ 513 inp 24).AI r = D.AI r := fun r hr => (o2 r (by omega)).1.trans (o1 r (by omega)).1
  generalize (((((((D2.setAJ 513 0 1).setAJ 513 1 1).setAJ 513 2 1).setAJ 513 3 1).setAJ 513 4 1).setAJ 512 inp (i6 wy)).setAJ 513 inp 24) = D9 at *
  obtain ⟨w1, w2⟩ := frac24 hwy
  obtain ⟨t0, tz, tk, -⟩ := hst
  obtain ⟨hκ, hab, ⟨g01, g11, g21⟩, ⟨g03, g13, g23⟩, g20, g22⟩ := id hH
  have on3 : ∀ k, k < 3 → onL 3 k = true := fun k hk => decide_eq_true hk
  have nd3 : ∀ s, s ≠ 1 → s ≠ 2 → s ≠ 4 → ∀ k, k < 3 → onL 3 k = true → G k 3 ≠ s := fun s n1 n2 n4 k hk _ => by
    rcases (show k = 0 ∨ k = 1 ∨ k = 2 by omega) with rfl | rfl | rfl
    · rw [g03]; exact fun e => n1 e.symm
    · rw [g13]; exact fun e => n2 e.symm
    · rw [g23]; exact fun e => n4 e.symm
  have fz : ∀ s, s < 5 → t s = (if s = inp then Rat.divInt wy 24 else 0) → Fr45 D9 512 s (t s) := fun s hs e => by
    rw [e]
    unfold Fr45
    rw [a512 s, a513 s hs]
    by_cases c : s = inp
    · rw [if_pos c, if_pos c, if_pos c, w1, w2]
      exact ⟨rfl, rfl⟩
    · rw [if_neg c, if_neg c, if_neg c]
      exact ⟨rfl, rfl⟩
  have eu : ∀ s, s ≠ 1 → s ≠ 2 → s ≠ 4 → t s = (if s = inp then Rat.divInt wy 24 else 0) := fun s n1 n2 n4 => by
    by_cases c : s = inp
    · rw [if_pos c, c, t0]
    · rw [if_neg c, tz s c (nd3 s n1 n2 n4)]
  have np : ∀ k, k < 2 → G k 0 ≠ 112 := fun k hk => by
    rw [hκ k hk]
    exact (kab_sm (hK.1 k hk)).2.2.2
  have ok := fun k (hk : k < 3) => (hG.2.2.1 k hk).1
  have l0 := tk 0 (by decide) (on3 0 (by decide))
  have l1 := tk 1 (by decide) (on3 1 (by decide))
  have l2 := tk 2 (by decide) (on3 2 (by decide))
  rw [g03] at l0
  rw [g13] at l1
  rw [g23] at l2
  have e4 : t 4 = t 1 * (a 2 : Rat) / ((a 2 + b 2 : Nat) : Rat) + t 3 * (b 2 : Rat) / ((a 2 + b 2 : Nat) : Rat) := by
    rw [l2.2.1, ctr_p g20, g21, g22, (hab 2 (by decide)).1, (hab 2 (by decide)).2]
  have hD9 : LD45 κ a b D9 := hD.cg (fun r _ _ => othI r (by omega))
  have X9 : ∀ s, s < 5 → Fr45 D9 505 s (X s) := fun s hs => (hX s hs).cg (oth _ (by decide)) (oth _ (by decide))
  have W9 : ∀ l, l < 3 → Fr45 D9 507 l (W0 l) := fun l hl => (hW l hl).cg (oth _ (by decide)) (oth _ (by decide))
  have m9 : ∀ j, j < 2 → D9.AJ 509 j = i6 (m j) := fun j hj => by
    rw [oth 509 (by decide)]
    exact hmm j hj
  have sb : SamN45 XM5 D D9 := ⟨othI, fun r hr _ => oth r hr⟩
  have fin : ∀ S' D', ZA A2 E ls 5 3 14 n G P W mk aact ol S' D' → SamL (fun x => x = 509 ∨ x = 512 ∨ x = 513) D9 D' → (∀ s, s < 4 → Fr45 D' 512 s (t s)) → (∀ j, j < 2 → D'.AJ 509 j = i6 (m' j)) → wL_law_b1111 x0 L9 k670 k747 S' (A2 0) 1 (A2 500) (A2 501) (A2 502) (A2 503) (A2 504) (A2 505) (A2 506) (A2 507) (A2 508) (A2 509) v13 (nI inp) v15 v16 (A2 510) (A2 511) v19 (A2 512) (A2 513) := fun S' D' h' s' f' q' => by
    refine p_rest (X := X) (W0 := W0) (act := onL 3) h' (hD9.cg (fun r _ _ => by rw [s'.1])) hH hK on3 e4 (fun s _ => sX s) (fun s _ => st s) s1d sW sW1 (fun s hs => (X9 s hs).cg (s'.2 _ (by decide)) (s'.2 _ (by decide))) (fun l hl => (W9 l hl).cg (s'.2 _ (by decide)) (s'.2 _ (by decide))) f' (fun S2 D2 h2 s2 f2 w2 => ?_)
    refine kk S2 A2 D2 (h2.down (by decide)) hA (sb.tr ⟨fun r hr => by rw [s2.1, s'.1], fun r hr hx => ?_⟩) f2 w2 (fun j hj => ?_)
    · unfold XM5 at hx
      rw [s2.2 r (by omega), s'.2 r (by omega)]
    · rw [s2.2 509 (by decide)]
      exact q' j hj
  refine ⟨3, ?_⟩
  show wL_law_b806 x0 L9 k670 k747 (it23 (wL_law_b806 x0 L9 k670 k747) 2) S19 (A2 0) 1 (A2 500) (A2 501) (A2 502) (A2 503) (A2 504) (A2 505) (A2 506) (A2 507) (A2 508) (A2 509) v13 (nI inp) v15 v16 (A2 510) (A2 511) v19 (A2 512) (A2 513) 0
  rcases hinp with rfl | rfl
  · have z3 : t 3 = 0 := tz 3 (by decide) (nd3 3 (by decide) (by decide) (by decide))
    have em0 : m' 0 = mkn G 0 (X 0 + t 0) (m 0) := by
      rw [l0.2.2, g01]
    have em1 : m' 1 = mkn G 1 (X 1 + t 1) (m 1) := by
      rw [l1.2.2, g11]
    refine p_linkL (j := 0) (X := X) (t := t) (m := m) (m' := m') h19 hD9 hH hK (by decide) rfl (X9 0 (by decide)) (fz 0 (by decide) (eu 0 (by decide) (by decide) (by decide))) (sX 0) (st 0) m9 (hm4 0 (by decide)) l0.2.1 em0 (fun S1 D1 h1 s1 f1 o1 n1 n2 => ?_)
    rw [← nI_succ]
    show wL_law_b806 x0 L9 k670 k747 (it23 (wL_law_b806 x0 L9 k670 k747) 1) S1 (A2 0) 1 (A2 500) (A2 501) (A2 502) (A2 503) (A2 504) (A2 505) (A2 506) (A2 507) (A2 508) (A2 509) v13 (nI 0) v15 v16 (A2 510) (A2 511) v19 (A2 512) (A2 513) (nI 1)
    refine p_linkL (j := 1) (X := X) (t := t) (m := fun i => if i = 0 then m' 0 else m i) (m' := m') h1 (hD9.cg (fun r _ _ => by rw [s1.1])) hH hK (by decide) rfl ((X9 1 (by decide)).cg (s1.2 _ (by decide)) (s1.2 _ (by decide))) f1 (sX 1) (st 1) (fun i hi => ?_) (hm4 1 (by decide)) l1.2.1 em1 (fun S2 D2 h2 s2 f2 o2 n3 n4 => ?_)
    · by_cases c : i = 0
      · rw [c, if_pos rfl]
        exact n1
      · rw [if_neg c, n2 i c]
        exact m9 i hi
    · rw [← nI_succ]
      show wL_law_b806 x0 L9 k670 k747 (it23 (wL_law_b806 x0 L9 k670 k747) 0) S2 (A2 0) 1 (A2 500) (A2 501) (A2 502) (A2 503) (A2 504) (A2 505) (A2 506) (A2 507) (A2 508) (A2 509) v13 (nI 0) v15 v16 (A2 510) (A2 511) v19 (A2 512) (A2 513) (nI 2)
      unfold wL_law_b806
      refine if_p (by decide) (fin S2 D2 h2 (s1.tr s2) (fun s hs => ?_) (fun j hj => ?_))
      · rcases (show s = 0 ∨ s = 1 ∨ s = 2 ∨ s = 3 by omega) with rfl | rfl | rfl | rfl
        · exact ((fz 0 (by decide) (eu 0 (by decide) (by decide) (by decide))).at (o1 0 (by decide))).at (o2 0 (by decide))
        · exact f1.at (o2 1 (by decide))
        · exact f2
        · exact ((fz 3 (by decide) (eu 3 (by decide) (by decide) (by decide))).at (o1 3 (by decide))).at (o2 3 (by decide))
      · rcases (show j = 0 ∨ j = 1 by omega) with rfl | rfl
        · rw [n4 0 (by decide)]
          exact n1
        · exact n3
  · have z0 : t 0 = 0 := tz 0 (by decide) (nd3 0 (by decide) (by decide) (by decide))
    have c0' := ctr_zero45 (X := X) (m := m 0) (ok 0 (by decide)) (np 0 (by decide)) (by rw [g01]; exact z0) (hR 0 (by decide) (on3 0 (by decide)))
    have z1 : t 1 = 0 := l0.2.1.trans c0'.1
    have c1' := ctr_zero45 (X := X) (m := m 1) (ok 1 (by decide)) (np 1 (by decide)) (by rw [g11]; exact z1) (hR 1 (by decide) (on3 1 (by decide)))
    have z2 : t 2 = 0 := l1.2.1.trans c1'.1
    unfold wL_law_b806
    refine if_n (by decide) (fi_n (by decide) (fin S19 D9 h19 SamL.rf (fun s hs => ?_) (fun j hj => ?_)))
    · rcases (show s = 0 ∨ s = 1 ∨ s = 2 ∨ s = 3 by omega) with rfl | rfl | rfl | rfl
      · exact fz 0 (by decide) (eu 0 (by decide) (by decide) (by decide))
      · exact fz 1 (by decide) (by rw [if_neg (by decide)]; exact z1)
      · exact fz 2 (by decide) (by rw [if_neg (by decide)]; exact z2)
      · exact fz 3 (by decide) (eu 3 (by decide) (by decide) (by decide))
    · rcases (show j = 0 ∨ j = 1 by omega) with rfl | rfl
      · rw [m9 0 (by decide), l0.2.2, c0'.2]
      · rw [m9 1 (by decide), l1.2.2, c1'.2]
end ST45
