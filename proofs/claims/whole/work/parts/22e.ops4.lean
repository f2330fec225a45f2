/-! CALLS THAT LEAVE ALL AS IT IS, side by side, fourth part: sums and the check -/
def inS (A : Nat → Nat) (N : Hp → Prop) (x : UInt32) (S6 : Hp) : Prop := isA S6 (A 111) 24 ∧ vp_in 0 (S6.N (A 111)) ∧ vf_n64 (FP.f2d x) ∧ Op.cmpValue (FP.dcmp (S6.AD (A 111) ((0 : Int32).toNatClampNeg)) (FP.f2d x)) .l = 0 ∧ (((0 : Int32) = 0 → N S6) ∧ (¬ ((0 : Int32) = 0) → vp_in 0 (S6.N (A 111)) ∧ vp_in 0 (S6.N (A 111)) ∧ Op.cmpValue (FP.dcmp (S6.AD (A 111) ((0 : Int32).toNatClampNeg)) (S6.AD (A 111) ((0 : Int32).toNatClampNeg))) .l = 0 ∧ (((0 : Int32) = 0 → False) ∧ (¬ ((0 : Int32) = 0) → False))))
def inM (A : Nat → Nat) (N : Hp → Prop) (x : UInt64) (S6 : Hp) : Prop := isA S6 (A 111) 24 ∧ vp_in 0 (S6.N (A 111)) ∧ Op.cmpValue (FP.dcmp (S6.AD (A 111) ((0 : Int32).toNatClampNeg)) x) .l = 0 ∧ (((0 : Int32) = 0 → N S6) ∧ (¬ ((0 : Int32) = 0) → vp_in 0 (S6.N (A 111)) ∧ vp_in 0 (S6.N (A 111)) ∧ Op.cmpValue (FP.dcmp (S6.AD (A 111) ((0 : Int32).toNatClampNeg)) (S6.AD (A 111) ((0 : Int32).toNatClampNeg))) .l = 0 ∧ (((0 : Int32) = 0 → False) ∧ (¬ ((0 : Int32) = 0) → Op.cmpValue (FP.dcmp x x) .l = 0 ∧ ((¬ (0 : Int32) = 0 → N S6) ∧ ((0 : Int32) = 0 → False))))))
def finX (A : Nat → Nat) (N X : Hp → Prop) (k : Int32) (S : Hp) : Prop := isA S (A 70) 8 ∧ wX8_thrown S (A 70) (fun S6 r7 => ((r7 = k → ((¬ k = 0 → N S6) ∧ (k = 0 → X S6))) ∧ (¬ (r7 = k) → False)))
theorem finX_t {A E : Nat → Nat} {ls : Nat → List Nat} {nl nc nd : Nat} {S : Hp} {D : Dt} {N X : Hp → Prop} {k : Int32} (h : Rep A E ls nl nc nd S D) (ht : D.FI 549 70 = k) (hk : ¬ k = 0) (n : N S) : finX A N X k S := by
  have v : S.FI 549 (A 70) = k := (rep_FI h 549 (by decide) m_al).trans ht
  unfold finX wX8_thrown wX8_thrown_b0
  rw [v]
  exact ⟨m_is h, m_is h, if_p rfl (fi_n hk n)⟩
theorem finX_0 {A E : Nat → Nat} {ls : Nat → List Nat} {nl nc nd : Nat} {S : Hp} {D : Dt} {N X : Hp → Prop} (h : Rep A E ls nl nc nd S D) (ht : D.FI 549 70 = 0) (x : X S) : finX A N X 0 S := by
  have v : S.FI 549 (A 70) = 0 := (rep_FI h 549 (by decide) m_al).trans ht
  unfold finX wX8_thrown wX8_thrown_b0
  rw [v]
  exact ⟨m_is h, m_is h, if_p rfl (fi_p rfl x)⟩
theorem o_isD {A E : Nat → Nat} {ls : Nat → List Nat} {nl nc nd : Nat} {S : Hp} {D : Dt} (h : Rep A E ls nl nc nd S D) : isA S (A 111) 24 ∧ S.N (A 111) = 1 := ⟨rep_is h (al_s (by decide)) (by decide), rep_N h (al_s (by decide)) (by decide)⟩
/-- the answer is put down -/
theorem outD_w {A E : Nat → Nat} {ls : Nat → List Nat} {nl nc nd : Nat} {S : Hp} {D : Dt} {Z : Hp → Prop} {v : UInt64} (h : Rep A E ls nl nc nd S D) (k : ∀ S', Rep A E ls nl nc nd S' D → S'.AD (A 111) ((0 : Int32).toNatClampNeg) = v → Z S') : isA S (A 111) 24 ∧ vp_in 0 (S.N (A 111)) ∧ ∀ S6, S6 = S.setAD (A 111) ((0 : Int32).toNatClampNeg) v → Z S6 := by
  obtain ⟨o1, o2⟩ := o_isD h
  refine ⟨o1, by rw [o2]; exact in_nI (i := 0) (by decide) (by decide), fun S6 e6 => k S6 ?_ ?_⟩
  · rw [e6]
    exact rep_AD h _ _ _
  · rw [e6]
    show up2 S.AD (A 111) _ v (A 111) _ = v
    exact up2_s
section OS9
variable {i : Nat} {A E : Nat → Nat} {ls : Nat → List Nat} {ns nl nc nd n : Nat} {G : Nat → Nat → Nat} {P W : Nat → Rat} {mk : Nat → Int} {eng brk aact : Nat → Bool} {life sl : Nat → Nat} {K : Nat → Cm} {pn : Nat → Nat → Nat → Bool} {ds : Nat → Nat} {V : Nat → Nat → Int32} {ol : List Nat} {S S' : Hp} {D D' : Dt} {N : Hp → Prop}

theorem wrok_of {D : Dt} {r m : Nat} (hG : GrOK ns nl G) (hL : Lev nl G (dp G nl)) (hB : BdW G nl n W) (hn : n ≤ 24600) (h0 : ∀ k, 0 ≤ W k) {o u : Nat → Int64} (ho : ∀ k, k < nl → o k = i6 (W k).num ∧ u k = i6 ((W k).den : Int)) : WrOK nl o u := by
  intro k hk
  obtain ⟨w1, w2, w3⟩ := w_num hG hL hk
  have hWb := bd_bq w1 (hB k hk)
  have hnw : n * wbo G nl k ≤ 24600 * 100000000000 := Nat.mul_le_mul hn w3
  have rW := bq_rg hWb w1 (by omega) (by omega) 1 (by omega)
  have dl := den_le hWb w1
  exact ⟨W k, (ho k hk).1, (ho k hk).2, Rat.num_nonneg.mpr (h0 k), rW.1, by omega⟩
theorem o_drivenShare {Z : Hp → Int32 → Prop} (ja : JA i A E ls ns nl nc nd G P W mk eng brk aact life sl K pn ds V n ol S D) (hi : i < 512) (hN : ∀ S', JS (i + 1) S' (A 0) (A 70) (A 110) (A 111) → N S') (hZ : ∀ S2 k, (isA S2 (A 70) 8 ∧ wX8_drivenShare S2 (A 70) (fun S5 b => finX A N (inS A N b) k S5)) → Z S2 k) : wL_drivenShare S (A 0) (A 111) Z := by
  obtain ⟨h, hl, ⟨⟨hG, hL⟩, -⟩, hc, hm⟩ := id ja
  have h14 := hG.1
  unfold wL_drivenShare wL_drivenShare_b0
  refine ⟨c_is h, p_drivenShareC h hG hc.1.1 hc.1.2.2 (fun q => ⟨rfl, hZ _ _ ⟨m_is h, p_drivenShareM h hG hm.1.1 hm.2.1.2 (fun _ S' D' r' t' _ => finX_t r' t'.2 (by decide) (hN _ ((ja.thr r' t').nx hi).js)) (fun q2 => absurd q (by omega))⟩⟩) (fun q => ?_)⟩
  obtain ⟨s1, s2, s3⟩ := shr_ok ns (by omega) _ (cnt_le (fun s => (drv G nl s).isSome) ns) q
  refine ⟨s2, outD_w h (fun S6 r6 e6 => hZ _ _ ⟨m_is r6, p_drivenShareM r6 hG hm.1.1 hm.2.1.2 (fun q2 => absurd q2 (by omega)) (fun _ S' D' r' t' ea => finX_0 r' t'.2 ?_)⟩)⟩
  obtain ⟨o1, o2⟩ := o_isD r'
  unfold inS
  rw [ea, e6, o2]
  exact ⟨o1, in_nI (i := 0) (by decide) (by decide), s2, s3, if_p rfl (hN _ (((ja.rp r6).thr r' t').nx hi).js)⟩
theorem o_meanWorn {Z : Hp → Int32 → Prop} (ja : JA i A E ls ns nl nc nd G P W mk eng brk aact life sl K pn ds V n ol S D) (hi : i < 512) (hN : ∀ S', JS (i + 1) S' (A 0) (A 70) (A 110) (A 111) → N S') (hZ : ∀ S2 k, (isA S2 (A 70) 8 ∧ wX8_meanWorn S2 (A 70) (fun S5 b => finX A N (inM A N b) k S5)) → Z S2 k) : wL_meanWorn S (A 0) (A 111) Z := by
  obtain ⟨h, hl, ⟨⟨hG, hL⟩, ⟨-, -, hW, -⟩, -, ⟨-, -, h0⟩, -⟩, hc, hm⟩ := id ja
  have h14 := hG.2.1
  have hn := (jp_n ja.2.2.1 hi).2.1
  have w1 : WrOK nl (D.AJ 32) (D.AJ 33) := wrok_of (D := D) (r := 0) (m := 0) hG hL hW hn h0 (fun k hk => hc.2.2.1.2.1 k (by omega))
  have w2 : WrOK nl (D.AJ 91) (D.AJ 92) := wrok_of (D := D) (r := 0) (m := 0) hG hL hW hn h0 (fun k hk => hm.2.2.2.1.2 k hk)
  unfold wL_meanWorn wL_meanWorn_b0
  refine ⟨c_is h, p_meanWornC h hl.1 h14 w1 (fun q => ⟨rfl, hZ _ _ ⟨m_is h, p_meanWornM h hm.1.2.1 h14 w2 (fun _ S' D' r' t' _ => finX_t r' t'.2 (by decide) (hN _ ((ja.thr r' t').nx hi).js)) (fun q2 => absurd q (by omega))⟩⟩) (fun q => outD_w h (fun S6 r6 e6 => hZ _ _ ⟨m_is r6, p_meanWornM r6 hm.1.2.1 h14 w2 (fun q2 => absurd q2 (by omega)) (fun _ S' D' r' t' ea => finX_0 r' t'.2 ?_)⟩))⟩
  obtain ⟨o1, o2⟩ := o_isD r'
  unfold inM
  have em : mwS (D.AJ 91) (D.AJ 92) nl = mwS (D.AJ 32) (D.AJ 33) nl := mwS_cg nl (fun k hk => by
    obtain ⟨a1, a2⟩ := hc.2.2.1.2.1 k (by omega)
    obtain ⟨b1, b2⟩ := hm.2.2.2.1.2 k hk
    exact ⟨b1.trans a1.symm, b2.trans a2.symm⟩)
  rw [ea, e6, o2, em]
  exact ⟨o1, in_nI (i := 0) (by decide) (by decide), dcmp_s (nng_nn (nng_div (wr_s w1 nl (Nat.le_refl _)) (pfin_i2d q (by omega)))), if_p rfl (hN _ (((ja.rp r6).thr r' t').nx hi).js)⟩
theorem o_freedom (ja : JA i A E ls ns nl nc nd G P W mk eng brk aact life sl K pn ds V n ol S D) (hi : i < 512) (hN : ∀ S', JS (i + 1) S' (A 0) (A 70) (A 110) (A 111) → N S') : isA S (A 0) 7 ∧ wX7_freedom S (A 0) (fun S1 r2 => isA S1 (A 70) 8 ∧ wX8_freedom S1 (A 70) (fun S4 r5 => ((r2 = r5 → N S4) ∧ (¬ (r2 = r5) → False)))) := by
  obtain ⟨h, hl, ⟨⟨hG, hL⟩, -⟩, hc, hm⟩ := id ja
  exact ⟨c_is h, p_freedomC h hG hc.1.1 hc.1.2.2 ⟨m_is h, p_freedomM h hG hm.1.1 hm.2.1.2 (fun S' D' r' t' => if_p rfl (hN _ ((ja.thr r' t').nx hi).js))⟩⟩
theorem o_checksum (ja : JA i A E ls ns nl nc nd G P W mk eng brk aact life sl K pn ds V n ol S D) (hi : i < 512) (hN : ∀ S', JS (i + 1) S' (A 0) (A 70) (A 110) (A 111) → N S') : isA S (A 0) 7 ∧ wX7_checksum S (A 0) (fun S1 r2 => isA S1 (A 70) 8 ∧ wX8_checksum S1 (A 70) (fun S4 r5 => (((lg_cmp r2 r5) = 0 → N S4) ∧ (¬ ((lg_cmp r2 r5) = 0) → False)))) := by
  obtain ⟨h, hl, ⟨⟨hG, hL⟩, -⟩, hc, hm⟩ := id ja
  have h14 := hG.1
  have h4 := ja.nl14.2.2.2
  refine ⟨c_is h, p_checksumC h h14 hc.1.1 hl.2.2.2.1 h4 ⟨m_is h, p_checksumM h h14 hm.1.1 hm.1.2.2.2 h4 (fun S' D' r' t' => ?_)⟩⟩
  have e : ck3 (fun d => D.AI (602 + 3 * d)) (ck1 (D.AJ 34) (D.AJ 35) ns) nd = ck3 (fun d => D.AI (240 + d)) (ck1 (D.AJ 72) (D.AJ 73) ns) nd := by
    refine ck3_cg (ck1_cg ns (fun s hs => ?_)) nd (fun d t hd ht => ?_)
    · obtain ⟨a1, a2⟩ := hc.2.2.1.1 s (by omega)
      obtain ⟨b1, b2⟩ := hm.2.2.2.1.1 s hs
      exact ⟨a1.trans b1.symm, a2.trans b2.symm⟩
    · exact (hc.2.2.2.2.1.2.1 d t hd ht).trans (hm.2.2.2.2.2.2.2 d t (by omega) ht).symm
  rw [e]
  exact if_p (cmp_self _) (hN _ ((ja.thr r' t').nx hi).js)
theorem o_isSound (ja : JA i A E ls ns nl nc nd G P W mk eng brk aact life sl K pn ds V n ol S D) (hi : i < 512) (hN : ∀ S', JS (i + 1) S' (A 0) (A 70) (A 110) (A 111) → N S') : isA S (A 0) 7 ∧ wX7_isSound S (A 0) (fun S1 r2 => isA S1 (A 70) 8 ∧ wX8_isSound S1 (A 70) (fun S4 r5 => ((r2 = r5 → N S4) ∧ (¬ (r2 = r5) → False)))) := by
  obtain ⟨h, hl, ⟨⟨hG, hL⟩, ⟨-, hB, -⟩, -⟩, hc, hm⟩ := id ja
  have hn := (jp_n ja.2.2.1 hi).2.1
  refine ⟨c_is h, p_isSoundC h hc.1.1 hc.1.2.1 hG hL hl.2.2.2.2 hl.1 hl.2.1 hl.2.2.1 ja.nl14.2.2.1 ja.camC hc.1.2.2 hc.2.2.1.1 hB hn (fun k hk => by rw [hc.2.2.2.2.2.1 k hk]; exact nb_bI _) (fun k hk => hc.2.2.2.2.2.1 k (by have := hG.2.1; omega)) hc.2.2.2.2.2.2 (fun S1 D1 r1 s1 => ?_)⟩
  have j1 := ja.scr r1 (s1.wk (fun _ _ q => q) (fun r q => by omega) (fun r q => by omega))
  exact ⟨m_is r1, p_isSoundM r1 (fun S' D' r' t' => if_p rfl (hN _ ((j1.thr r' t').nx hi).js))⟩
end OS9
