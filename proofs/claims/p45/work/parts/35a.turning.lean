/-! ONE TURNING: written by wip/p45/gen/own35.py -/
theorem addr12 {nl : Nat} {A A' : Nat → Nat} (h : SamA nl 12 A A') : A' 0 = A 0 ∧ A' 500 = A 500 ∧ A' 501 = A 501 ∧ A' 502 = A 502 ∧ A' 503 = A 503 ∧ A' 504 = A 504 ∧ A' 505 = A 505 ∧ A' 506 = A 506 ∧ A' 507 = A 507 ∧ A' 508 = A 508 ∧ A' 509 = A 509 ∧ A' 510 = A 510 ∧ A' 511 = A 511 := ⟨h.z, h.a (by decide) (by decide), h.a (by decide) (by decide), h.a (by decide) (by decide), h.a (by decide) (by decide), h.a (by decide) (by decide), h.a (by decide) (by decide), h.a (by decide) (by decide), h.a (by decide) (by decide), h.a (by decide) (by decide), h.a (by decide) (by decide), h.a (by decide) (by decide), h.a (by decide) (by decide)⟩
theorem addr10 {nl : Nat} {A A' : Nat → Nat} (h : SamA nl 10 A A') : A' 0 = A 0 ∧ A' 500 = A 500 ∧ A' 501 = A 501 ∧ A' 502 = A 502 ∧ A' 503 = A 503 ∧ A' 504 = A 504 ∧ A' 505 = A 505 ∧ A' 506 = A 506 ∧ A' 507 = A 507 ∧ A' 508 = A 508 ∧ A' 509 = A 509 := ⟨h.z, h.a (by decide) (by decide), h.a (by decide) (by decide), h.a (by decide) (by decide), h.a (by decide) (by decide), h.a (by decide) (by decide), h.a (by decide) (by decide), h.a (by decide) (by decide), h.a (by decide) (by decide), h.a (by decide) (by decide), h.a (by decide) (by decide)⟩
theorem SamA.tr {nl nc : Nat} {A A' A'' : Nat → Nat} (h : SamA nl nc A A') (h' : SamA nl nc A' A'') : SamA nl nc A A'' := fun r hr => (h' r hr).trans (h r hr)
theorem SamA.dn {nl nc nc' : Nat} {A A' : Nat → Nat} (h : SamA nl nc' A A') (hc : nc ≤ nc') : SamA nl nc A A' := fun r hr => h r (al_sub (Nat.le_refl _) hc (Nat.le_refl _) hr)
theorem y48 {r : Nat} : nI r - 48 = Int32.ofInt ((r : Int) - 48) := (Int32.ofInt_sub (r : Int) 48).symm
theorem y48t {r : Nat} (hr : r < 97) : (nI r - 48).toInt = (r : Int) - 48 := by
  rw [y48, Int32.toInt_ofInt_of_le (by omega) (by omega)]
theorem y48n {r : Nat} (h : r < 48) : (nI r - 48) * (-1) = nI (48 - r) := by
  have e1 : (-1 : Int32) = Int32.ofInt (-1) := by decide
  rw [y48, e1, ← Int32.ofInt_mul]
  have e2 : ((r : Int) - 48) * (-1) = ((48 - r : Nat) : Int) := by omega
  rw [e2]
  rfl
theorem y48p {r : Nat} (h : 48 ≤ r) : (nI r - 48) * 1 = nI (r - 48) := by
  rw [Int32.mul_one, y48]
  have e2 : (r : Int) - 48 = ((r - 48 : Nat) : Int) := by omega
  rw [e2]
  rfl
section TN45
variable {A E : Nat → Nat} {ls : Nat → List Nat} {n : Nat} {G : Nat → Nat → Nat} {P W : Nat → Rat} {mk : Nat → Int} {aact : Nat → Bool} {ol : List Nat} {S : Hp} {D : Dt} {x0 : Nat → Int32} {L9 : Nat} {v13 v14 v15 v16 v19 : Int32}
/-- between two turnings -/
def TS45 (A E : Nat → Nat) (ls : Nat → List Nat) (κ a b : Nat → Nat) (G : Nat → Nat → Nat) (ol : List Nat) (i : Nat) (S : Hp) : Prop := ∃ A1 n P W mk aact D, ZA A1 E ls 5 3 10 n G P W mk aact ol S D ∧ SamA 3 10 A A1 ∧ n ≤ 48 * i ∧ LD45 κ a b D ∧ (∀ s, s < 5 → Fr45 D 505 s (P s)) ∧ (∀ l, l < 3 → Fr45 D 507 l (W l)) ∧ ∀ j, j < 2 → D.AJ 509 j = i6 (mk j)
/-- the steps, one behind another, then the class's turning -/
theorem p_steps {k670 : KA45} {κ a b : Nat → Nat} {inp N : Nat} (h : ZA A E ls 5 3 12 n G P W mk aact ol S D) (hD : LD45 κ a b D) (hH : GH κ a b G) (hK : HK κ a b) (hinp : inp = 0 ∨ inp = 3) (e14 : v14 = nI inp) (hy : -48 ≤ v15.toInt ∧ v15.toInt ≤ 48) (eN : N = v15.toInt.natAbs) (e16 : v16.toInt64 = i6 (wayOf v15)) (ey : v15 * v16 = nI N) (hn : n + 48 ≤ 300)
    (hX : ∀ s, s < 5 → Fr45 D 505 s (P s)) (hW : ∀ l, l < 3 → Fr45 D 507 l (W l)) (hm : ∀ j, j < 2 → D.AJ 509 j = i6 (mk j)) (hO : ∀ s, s < 5 → Fr45 D 510 s (P s))
    (kk : ∀ S' A' n' P' W' mk' D', ZA A' E ls 5 3 10 n' G P' W' mk' (onL 3) ol S' D' → n' ≤ n + 48 → SamA 3 10 A A' → LD45 κ a b D' → (∀ s, s < 5 → Fr45 D' 505 s (P' s)) → (∀ l, l < 3 → Fr45 D' 507 l (W' l)) → (∀ j, j < 2 → D'.AJ 509 j = i6 (mk' j)) → k670 S' (A' 0) 1 (A' 500) (A' 501) (A' 502) (A' 503) (A' 504) (A' 505) (A' 506) (A' 507) (A' 508) (A' 509) (v13 + 1)) : it20 (wL_law_b747 x0 L9 k670) 49 S (A 0) 1 (A 500) (A 501) (A 502) (A 503) (A 504) (A 505) (A 506) (A 507) (A 508) (A 509) v13 v14 v15 v16 (A 510) (A 511) 0 := by
  have hG := h.2.2.1.1.1
  have hL := h.2.2.1.1.2
  obtain ⟨hR, hB, hWB, hMB⟩ := h.2.2.1.2.1
  have hd : drv G 3 inp = none := by
    obtain ⟨d0, -, -, d3, -⟩ := gh_drv hH hG
    rcases hinp with rfl | rfl
    · exact d0
    · exact d3
  have hN : N ≤ 48 := by omega
  have hw1 : (wayOf v15).natAbs ≤ 1 := way_le v15
  have hwy : wayOf v15 = 1 ∨ wayOf v15 = -1 := by
    unfold wayOf
    by_cases c : v15.toInt < 0
    · rw [if_pos c]
      exact Or.inr rfl
    · rw [if_neg c]
      exact Or.inl rfl
  obtain ⟨Ps, tns, mks, p0, m0, sq⟩ := sq_ex hG hL (onL 3) P mk inp (wayOf v15) (fun k hk _ e => drv_none.mp hd k hk e) N
  have inv := sq_inv (n := n) (W := W) hG hL hw1 sq (by rw [p0, m0]; exact hR) (by rw [p0]; exact hB) (by rw [m0]; exact hMB) hWB (by omega)
  have tb := sq_tb (n := n) (W := W) hG hL hw1 sq (by rw [p0, m0]; exact hR) (by rw [p0]; exact hB) (by rw [m0]; exact hMB) hWB (by omega)
  have sP : ∀ i, i ≤ N → ∀ s, Sz (Ps i s) := fun i hi s => sz_P hH hG hK (inv i hi).2.1 (by omega) s
  refine it20_c (fun j S1 v => v = nI j ∧ ∃ A3 D3, ZA A3 E ls 5 3 12 n G P W mk aact ol S1 D3 ∧ SamA 3 12 A A3 ∧ SamN45 XM5 D D3 ∧ (∀ s, s < 5 → Fr45 D3 505 s (Ps j s)) ∧ (∀ l, l < 3 → Fr45 D3 507 l (Wsq G (onL 3) tns W j l)) ∧ ∀ i, i < 2 → D3.AJ 509 i = i6 (mks j i)) N ?_ ?_ N 0 (by omega) 49 (by omega) S 0 ⟨rfl, A, D, h, fun _ _ => rfl, SamN45.rf, by rw [p0]; exact hX, hW, by rw [m0]; exact hm⟩
  · rintro j hj S1 _ k9 ⟨rfl, A3, D3, h3, sa, sm, fX, fW, fm⟩ hk9
    obtain ⟨b0, b1, b2, b3, b4, b5, b6, b7, b8, b9, b10, b11, b12⟩ := addr12 sa
    obtain ⟨i1, i2, i3, i4⟩ := inv j (by omega)
    obtain ⟨q1, q2⟩ := sq j hj
    have hT := tb j hj
    have s1d : (tns j 1).den ≤ 100000 := by
      have h0 := (dq_sm hH hG hK).1 1
      have h1 := (dQ_pos hG 3 1).1
      have h2 : 0 < pm G 3 1 := by
        unfold pm
        omega
      have h3 := den_le (bd_bq h2 (hT 1)) h2
      unfold pm at h3
      omega
    rw [← b0, ← b1, ← b2, ← b3, ← b4, ← b5, ← b6, ← b7, ← b8, ← b9, ← b10, ← b11, ← b12]
    refine p_step (X := Ps j) (t := tns j) (W0 := Wsq G (onL 3) tns W j) (m := mks j) (m' := mks (j + 1)) h3 (hD.cg (fun r _ _ => sm.1 r (by omega))) hH hK hinp e14 e16 hwy (by rw [ey]; exact nI_ge hj (by omega)) q1 i1 (sP j (by omega)) (fun s => sz_T hH hG hK (hT s)) s1d (fun l hl => sz_W hH hG hK i4 (by omega) hl) ?_ (fun i hi => i3 i hi) fX fW fm (fun S2 A4 D4 h4 sa4 sm4 gX gW gm => ?_)
    · have := sz_W1 hH hG hL hK i4 hT (by omega) (k := 2) (by decide)
      rw [hH.2.2.1.2.2] at this
      exact this
    · obtain ⟨c0, c1, c2, c3, c4, c5, c6, c7, c8, c9, c10, c11, c12⟩ := addr12 (sa.tr sa4)
      rw [c0, c1, c2, c3, c4, c5, c6, c7, c8, c9, c10, c11, c12, ← nI_succ]
      refine hk9 _ _ ⟨rfl, A4, D4, h4, sa.tr sa4, sm.tr sm4, ?_, gW, gm⟩
      rw [q2]
      exact gX
  · rintro S1 _ k9 ⟨rfl, A3, D3, h3, sa, sm, fX, fW, fm⟩
    obtain ⟨b0, b1, b2, b3, b4, b5, b6, b7, b8, b9, b10, b11, b12⟩ := addr12 sa
    unfold wL_law_b747
    refine if_p (by rw [ey]; exact nI_le (Nat.le_refl _) (by omega)) ?_
    rw [← b0, ← b1, ← b2, ← b3, ← b4, ← b5, ← b6, ← b7, ← b8, ← b9, ← b10, ← b11, ← b12]
    have o10 : D3.AJ 510 = D.AJ 510 := sm.2 510 (by decide) (by unfold XM5; omega)
    have o11 : D3.AJ 511 = D.AJ 511 := sm.2 511 (by decide) (by unfold XM5; omega)
    refine p_moved (inp := inp) (N := N) (Ps := Ps) (tns := tns) (mks := mks) h3 (hD.cg (fun r _ _ => sm.1 r (by omega))) (by omega) hd e14 hy eN hn (fun s => by rw [← p0]; exact sP 0 (by omega) s) (sP N (Nat.le_refl _)) p0 m0 sq fX fW fm (fun s hs => (hO s hs).cg o10 o11) (fun S2 A4 n' D4 h4 en sa4 hD4 gX gW gm => ?_)
    have sa5 : SamA 3 10 A A4 := (sa.dn (by decide)).tr sa4
    exact kk S2 A4 n' _ _ _ D4 h4 (by omega) sa5 hD4 gX gW gm
/-- a turning -/
theorem p_turning {k670 : KA45} {κ a b : Nat → Nat} {i : Nat} (h : ZA A E ls 5 3 10 n G P W mk aact ol S D) (hL : L9 ≤ 260) (hi : i < 5) (hn : n ≤ 48 * i) (hD : LD45 κ a b D) (hH : GH κ a b G) (hK : HK κ a b)
    (hX : ∀ s, s < 5 → Fr45 D 505 s (P s)) (hW : ∀ l, l < 3 → Fr45 D 507 l (W l)) (hm : ∀ j, j < 2 → D.AJ 509 j = i6 (mk j))
    (kk : ∀ S', TS45 A E ls κ a b G ol (i + 1) S' → k670 S' (A 0) 1 (A 500) (A 501) (A 502) (A 503) (A 504) (A 505) (A 506) (A 507) (A 508) (A 509) (nI i + 1)) : wL_law_b670 x0 L9 k670 S (A 0) 1 (A 500) (A 501) (A 502) (A 503) (A 504) (A 505) (A 506) (A 507) (A 508) (A 509) (nI i) := by
  have N505 : S.N (A 505) = 5 := h.N (r := 505) (by decide) (by decide) rfl
  have g8 := h.is (r := 505) (by decide) (by decide) rfl
  have go : ∀ (inp : Nat) (z : Int32), inp = 0 ∨ inp = 3 → z = nI inp → wL_law_b694 x0 L9 k670 S (A 0) 1 (A 500) (A 501) (A 502) (A 503) (A 504) (A 505) (A 506) (A 507) (A 508) (A 509) (nI i) z := fun inp z hinp ez => by
    unfold wL_law_b694
    refine p_in (i := 20 + i) (m := 97) (nI_add 20 i) rfl hL (by omega) (by decide) (by decide) (fun r hr => ?_)
    have yt := y48t hr
    have st : ∀ (v16 : Int32), v16.toInt64 = i6 (wayOf (nI r - 48)) → (nI r - 48) * v16 = nI ((nI r - 48).toInt.natAbs) → wL_law_b722 x0 L9 k670 S (A 0) 1 (A 500) (A 501) (A 502) (A 503) (A 504) (A 505) (A 506) (A 507) (A 508) (A 509) (nI i) z (nI r - 48) v16 := fun v16 e16 ey => by
      unfold wL_law_b722
      rw [N505]
      refine ⟨g8, by decide, fun a2 S3 f2 e3 => ?_⟩
      obtain ⟨A1, D1, h1, sa1, q1, -, -, o1⟩ := h.born (nc := 10) (k := 22) (m := 5) (by decide) f2 (by decide) (by decide)
      obtain ⟨D2, h2, u2, w2, x2⟩ := h1.putAJ (r := 510) (S.AJ (A 505)) (by decide) (by decide)
      have q1' : A1 510 = a2 := q1
      rw [q1', ← e3] at h2
      have hA1 : ∀ r, al 3 10 0 r → r < 510 → A1 r = A r := fun r hr h9 => sa1 r h9 hr
      have e506 : A 506 = A1 506 := (hA1 506 (Or.inr (Or.inr (Or.inl ⟨by decide, by decide⟩))) (by decide)).symm
      have N506 : S3.N (A 506) = 5 := by
        rw [e506]
        exact h2.N (r := 506) (by decide) (by decide) rfl
      have g9 : isA S3 (A 506) 22 := by
        rw [e506]
        exact h2.is (r := 506) (by decide) (by decide) rfl
      rw [N506]
      refine ⟨g9, by decide, fun a6 S7 f6 e7 => ?_⟩
      obtain ⟨A4, D4, h4, sa4, q4, -, -, o4⟩ := h2.born (nc := 11) (k := 22) (m := 5) (by decide) f6 (by decide) (by decide)
      obtain ⟨D5, h5, u5, w5, x5⟩ := h4.putAJ (r := 511) (S3.AJ (A 506)) (by decide) (by decide)
      have q4' : A4 511 = a6 := q4
      rw [q4', ← e7] at h5
      have h5 : ZA A4 E ls 5 3 12 n G P W mk aact ol S7 D5 := h5
      have lt510 : ∀ r, al 3 10 0 r → r < 510 := fun r hr => by
        rcases hr with hr | hr | hr | hr
        · have := sdr_lt hr
          omega
        · omega
        · omega
        · omega
      have sa : SamA 3 10 A A4 := fun r hr => (sa4 r (by have := lt510 r hr; omega) (al_sub (Nat.le_refl _) (by decide) (Nat.le_refl _) hr)).trans (hA1 r hr (lt510 r hr))
      obtain ⟨b0, b1, b2, b3, b4, b5, b6, b7, b8, b9, b10⟩ := addr10 sa
      have e10 : a2 = A4 510 := q1'.symm.trans (sa4 510 (by decide) (Or.inr (Or.inr (Or.inl ⟨by decide, by decide⟩)))).symm
      rw [← b0, ← b1, ← b2, ← b3, ← b4, ← b5, ← b6, ← b7, ← b8, ← b9, ← b10, e10, ← q4']
      have r5 : ∀ r, r ≠ 510 → r ≠ 511 → D5.AJ r = D.AJ r := fun r n1 n2 => by
        rw [x5 r n2, (o4 r n2).2, x2 r n1, (o1 r n1).2]
      have r5I : ∀ r, r < 510 → D5.AI r = D.AI r := fun r hr => by
        rw [u5, (o4 r (by omega)).1, u2, (o1 r (by omega)).1]
      have f510 : ∀ s, D5.AJ 510 s = D.AJ 505 s := fun s => by
        rw [x5 510 (by decide), (o4 510 (by decide)).2, w2, rep_AJ h.1 s (Or.inr (Or.inr (Or.inl ⟨by decide, by decide⟩)))]
      have f511 : ∀ s, D5.AJ 511 s = D.AJ 506 s := fun s => by
        rw [w5, e506, rep_AJ h2.1 s (Or.inr (Or.inr (Or.inl ⟨by decide, by decide⟩))), x2 506 (by decide), (o1 506 (by decide)).2]
      refine p_steps (inp := inp) (N := (nI r - 48).toInt.natAbs) h5 (hD.cg (fun r _ _ => r5I r (by omega))) hH hK hinp ez (by omega) rfl e16 ey (by omega) (fun s hs => (hX s hs).cg (r5 _ (by decide) (by decide)) (r5 _ (by decide) (by decide))) (fun l hl => (hW l hl).cg (r5 _ (by decide) (by decide)) (r5 _ (by decide) (by decide))) (fun j hj => by rw [r5 509 (by decide) (by decide)]; exact hm j hj) (fun s hs => ⟨(f510 s).trans (hX s hs).1, (f511 s).trans (hX s hs).2⟩) (fun S' A' n' P' W' mk' D' h' hn' sa' hD' gX gW gm => ?_)
      have sb := sa.tr sa'
      obtain ⟨c0, c1, c2, c3, c4, c5, c6, c7, c8, c9, c10⟩ := addr10 sb
      rw [c0, c1, c2, c3, c4, c5, c6, c7, c8, c9, c10]
      exact kk S' ⟨A', n', P', W', mk', _, D', h', sb, by omega, hD', gX, gW, gm⟩
    by_cases c : 48 ≤ r
    · have hw : wayOf (nI r - 48) = 1 := by
        unfold wayOf
        rw [if_neg (by omega)]
      have hN : (nI r - 48).toInt.natAbs = r - 48 := by omega
      refine if_p (Int32.le_iff_toInt_le.mpr (by rw [yt]; show (0 : Int) ≤ _; omega)) (st 1 (by rw [hw]; decide) (by rw [hN]; exact y48p c))
    · have hw : wayOf (nI r - 48) = -1 := by
        unfold wayOf
        rw [if_pos (by omega)]
      have hN : (nI r - 48).toInt.natAbs = 48 - r := by omega
      refine if_n (fun q => ?_) (st (-1) (by rw [hw]; decide) (by rw [hN]; exact y48n (by omega)))
      have q2 : (0 : Int) ≤ (nI r - 48).toInt := Int32.le_iff_toInt_le.mp q
      omega
  unfold wL_law_b670
  refine if_n (nI_ge (b := 5) hi (by decide)) (p_in (i := 10 + i) (m := 2) (nI_add 10 i) rfl hL (by omega) (by decide) (by decide) (fun r hr => ?_))
  rcases (show r = 0 ∨ r = 1 by omega) with rfl | rfl
  · exact fi_p rfl (go 0 0 (Or.inl rfl) rfl)
  · exact fi_n (by decide) (go 3 3 (Or.inr rfl) rfl)
theorem p_end {k670 : KA45} {κ a b : Nat → Nat} (h : ZA A E ls 5 3 10 n G P W mk aact ol S D) (hH : GH κ a b G) : wL_law_b670 x0 L9 k670 S (A 0) 1 (A 500) (A 501) (A 502) (A 503) (A 504) (A 505) (A 506) (A 507) (A 508) (A 509) (nI 5) := by
  have hG := h.2.2.1.1.1
  obtain ⟨d0, d1, d2, d3, d4⟩ := gh_drv hH hG
  unfold wL_law_b670
  refine if_p (nI_le (a := 5) (b := 5) (Nat.le_refl _) (by decide)) (if_n (by decide) (o_placeOverX h (by unfold inR; decide) (fi_p (cmp_self _) (o_wornOverX h (by unfold inR; decide) (fi_p (cmp_self _) ⟨c_is h.1, o_drivenShare h (by decide) (fi_p ?_ ⟨c_is h.1, o_isSound h (fun S' => if_n (by decide) trivial)⟩)⟩)))))
  have e : cnt 5 (fun s => (drv G 3 s).isSome) = 3 := by
    show 0 + (if (drv G 3 0).isSome = true then 1 else 0) + (if (drv G 3 1).isSome = true then 1 else 0) + (if (drv G 3 2).isSome = true then 1 else 0) + (if (drv G 3 3).isSome = true then 1 else 0) + (if (drv G 3 4).isSome = true then 1 else 0) = 3
    rw [d0, d1, d2, d3, d4]
    rfl
  rw [e]
  decide +kernel
end TN45
