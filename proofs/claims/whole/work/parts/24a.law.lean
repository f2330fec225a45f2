/-! THE LAW'S CALLS, one by one -/
section LA9
variable {i : Nat} {A E : Nat → Nat} {ls : Nat → List Nat} {ns nl nc nd n : Nat} {G : Nat → Nat → Nat} {P W : Nat → Rat} {mk : Nat → Int} {eng brk aact : Nat → Bool} {life sl : Nat → Nat} {K : Nat → Cm} {pn : Nat → Nat → Nat → Bool} {ds : Nat → Nat} {V : Nat → Nat → Int32} {ol : List Nat} {S S' : Hp} {D D' : Dt} {N : Hp → Prop}

variable {xs : Nat → Int32} {L : Nat} {k : Hp → Nat → Nat → Nat → Nat → Int32 → Prop} {v5 : Int32}
def Vp5 (v5 : Int32) (L : Nat) : Prop := vp_in (v5 + 1) L ∧ vp_in (v5 + 2) L ∧ vp_in (v5 + 3) L ∧ vp_in (v5 + 4) L ∧ vp_in (v5 + 5) L
theorem ca_b228 (ja : JA i A E ls ns nl nc nd G P W mk eng brk aact life sl K pn ds V n ol S D) (hi : i < 512) (hp : Vp5 v5 L) (hk : ∀ S', JS (i + 1) S' (A 0) (A 70) (A 110) (A 111) → k S' (A 0) (A 70) (A 110) (A 111) (v5 + 6)) : wL_law_b228 xs L k S (A 0) (A 70) (A 110) (A 111) v5 := by
  obtain ⟨p1, p2, p3, p4, p5⟩ := hp
  unfold wL_law_b228
  exact o_shaft (N := fun S' => k S' (A 0) (A 70) (A 110) (A 111) (v5 + 6)) ja hi hk (fun S2 r z => z)
theorem ca_b272 (ja : JA i A E ls ns nl nc nd G P W mk eng brk aact life sl K pn ds V n ol S D) (hi : i < 512) (hp : Vp5 v5 L) (hk : ∀ S', JS (i + 1) S' (A 0) (A 70) (A 110) (A 111) → k S' (A 0) (A 70) (A 110) (A 111) (v5 + 6)) : wL_law_b272 xs L k S (A 0) (A 70) (A 110) (A 111) v5 := by
  obtain ⟨p1, p2, p3, p4, p5⟩ := hp
  unfold wL_law_b272
  exact ⟨p1, p2, p3, p4, p5, o_link (N := fun S' => k S' (A 0) (A 70) (A 110) (A 111) (v5 + 6)) ja hi hk (fun S2 r z => ⟨p1, p2, p3, p4, p5, z⟩)⟩
theorem ca_b378 (ja : JA i A E ls ns nl nc nd G P W mk eng brk aact life sl K pn ds V n ol S D) (hi : i < 512) (hp : Vp5 v5 L) (hk : ∀ S', JS (i + 1) S' (A 0) (A 70) (A 110) (A 111) → k S' (A 0) (A 70) (A 110) (A 111) (v5 + 6)) : wL_law_b378 xs L k S (A 0) (A 70) (A 110) (A 111) v5 := by
  obtain ⟨p1, p2, p3, p4, p5⟩ := hp
  unfold wL_law_b378
  exact ⟨p1, p2, p3, p4, p5, o_planets (N := fun S' => k S' (A 0) (A 70) (A 110) (A 111) (v5 + 6)) ja hi hk (fun S2 r z => ⟨p1, p2, p3, p4, p5, z⟩)⟩
theorem ca_b482 (ja : JA i A E ls ns nl nc nd G P W mk eng brk aact life sl K pn ds V n ol S D) (hi : i < 512) (hp : Vp5 v5 L) (hk : ∀ S', JS (i + 1) S' (A 0) (A 70) (A 110) (A 111) → k S' (A 0) (A 70) (A 110) (A 111) (v5 + 6)) : wL_law_b482 xs L k S (A 0) (A 70) (A 110) (A 111) v5 := by
  obtain ⟨p1, p2, p3, p4, p5⟩ := hp
  unfold wL_law_b482
  by_cases c : xs (v5 + 2).toNatClampNeg = 0
  · exact ⟨p1, p2, if_p c (o_engage (v := false) (N := fun S' => k S' (A 0) (A 70) (A 110) (A 111) (v5 + 6)) ja hi hk (fun S2 r z => ⟨p1, p2, if_p c z⟩))⟩
  · exact ⟨p1, p2, if_n c (o_engage (v := true) (N := fun S' => k S' (A 0) (A 70) (A 110) (A 111) (v5 + 6)) ja hi hk (fun S2 r z => ⟨p1, p2, if_n c z⟩))⟩
theorem ca_b573 (ja : JA i A E ls ns nl nc nd G P W mk eng brk aact life sl K pn ds V n ol S D) (hi : i < 512) (hp : Vp5 v5 L) (hk : ∀ S', JS (i + 1) S' (A 0) (A 70) (A 110) (A 111) → k S' (A 0) (A 70) (A 110) (A 111) (v5 + 6)) : wL_law_b573 xs L k S (A 0) (A 70) (A 110) (A 111) v5 := by
  obtain ⟨p1, p2, p3, p4, p5⟩ := hp
  unfold wL_law_b573
  exact ⟨p1, p2, o_life (N := fun S' => k S' (A 0) (A 70) (A 110) (A 111) (v5 + 6)) ja hi hk (fun S2 r z => ⟨p1, p2, z⟩)⟩
theorem ca_b641 (ja : JA i A E ls ns nl nc nd G P W mk eng brk aact life sl K pn ds V n ol S D) (hi : i < 512) (hp : Vp5 v5 L) (hk : ∀ S', JS (i + 1) S' (A 0) (A 70) (A 110) (A 111) → k S' (A 0) (A 70) (A 110) (A 111) (v5 + 6)) : wL_law_b641 xs L k S (A 0) (A 70) (A 110) (A 111) v5 := by
  obtain ⟨p1, p2, p3, p4, p5⟩ := hp
  unfold wL_law_b641
  exact ⟨p1, p2, o_slack (N := fun S' => k S' (A 0) (A 70) (A 110) (A 111) (v5 + 6)) ja hi hk (fun S2 r z => ⟨p1, p2, z⟩)⟩
theorem ca_b709 (ja : JA i A E ls ns nl nc nd G P W mk eng brk aact life sl K pn ds V n ol S D) (hi : i < 512) (hp : Vp5 v5 L) (hk : ∀ S', JS (i + 1) S' (A 0) (A 70) (A 110) (A 111) → k S' (A 0) (A 70) (A 110) (A 111) (v5 + 6)) : wL_law_b709 xs L k S (A 0) (A 70) (A 110) (A 111) v5 := by
  obtain ⟨p1, p2, p3, p4, p5⟩ := hp
  unfold wL_law_b709
  exact ⟨p1, p2, o_turn (N := fun S' => k S' (A 0) (A 70) (A 110) (A 111) (v5 + 6)) ja hi hk (fun S2 r z => ⟨p1, p2, z⟩)⟩
theorem ca_b777 (ja : JA i A E ls ns nl nc nd G P W mk eng brk aact life sl K pn ds V n ol S D) (hi : i < 512) (hp : Vp5 v5 L) (hk : ∀ S', JS (i + 1) S' (A 0) (A 70) (A 110) (A 111) → k S' (A 0) (A 70) (A 110) (A 111) (v5 + 6)) : wL_law_b777 xs L k S (A 0) (A 70) (A 110) (A 111) v5 := by
  obtain ⟨p1, p2, p3, p4, p5⟩ := hp
  unfold wL_law_b777
  exact ⟨p1, o_placeOver (N := fun S' => k S' (A 0) (A 70) (A 110) (A 111) (v5 + 6)) ja hi hk (fun S2 r z => ⟨p1, z⟩)⟩
theorem ca_b832 (ja : JA i A E ls ns nl nc nd G P W mk eng brk aact life sl K pn ds V n ol S D) (hi : i < 512) (hp : Vp5 v5 L) (hk : ∀ S', JS (i + 1) S' (A 0) (A 70) (A 110) (A 111) → k S' (A 0) (A 70) (A 110) (A 111) (v5 + 6)) : wL_law_b832 xs L k S (A 0) (A 70) (A 110) (A 111) v5 := by
  obtain ⟨p1, p2, p3, p4, p5⟩ := hp
  unfold wL_law_b832
  exact ⟨p1, o_placeUnder (N := fun S' => k S' (A 0) (A 70) (A 110) (A 111) (v5 + 6)) ja hi hk (fun S2 r z => ⟨p1, z⟩)⟩
theorem ca_b887 (ja : JA i A E ls ns nl nc nd G P W mk eng brk aact life sl K pn ds V n ol S D) (hi : i < 512) (hp : Vp5 v5 L) (hk : ∀ S', JS (i + 1) S' (A 0) (A 70) (A 110) (A 111) → k S' (A 0) (A 70) (A 110) (A 111) (v5 + 6)) : wL_law_b887 xs L k S (A 0) (A 70) (A 110) (A 111) v5 := by
  obtain ⟨p1, p2, p3, p4, p5⟩ := hp
  unfold wL_law_b887
  exact ⟨p1, p2, o_ratioOver (N := fun S' => k S' (A 0) (A 70) (A 110) (A 111) (v5 + 6)) ja hi hk (fun S2 r z => ⟨p1, p2, z⟩)⟩
theorem ca_b954 (ja : JA i A E ls ns nl nc nd G P W mk eng brk aact life sl K pn ds V n ol S D) (hi : i < 512) (hp : Vp5 v5 L) (hk : ∀ S', JS (i + 1) S' (A 0) (A 70) (A 110) (A 111) → k S' (A 0) (A 70) (A 110) (A 111) (v5 + 6)) : wL_law_b954 xs L k S (A 0) (A 70) (A 110) (A 111) v5 := by
  obtain ⟨p1, p2, p3, p4, p5⟩ := hp
  unfold wL_law_b954
  exact ⟨p1, p2, o_ratioUnder (N := fun S' => k S' (A 0) (A 70) (A 110) (A 111) (v5 + 6)) ja hi hk (fun S2 r z => ⟨p1, p2, z⟩)⟩
theorem ca_b1021 (ja : JA i A E ls ns nl nc nd G P W mk eng brk aact life sl K pn ds V n ol S D) (hi : i < 512) (hp : Vp5 v5 L) (hk : ∀ S', JS (i + 1) S' (A 0) (A 70) (A 110) (A 111) → k S' (A 0) (A 70) (A 110) (A 111) (v5 + 6)) : wL_law_b1021 xs L k S (A 0) (A 70) (A 110) (A 111) v5 := by
  obtain ⟨p1, p2, p3, p4, p5⟩ := hp
  unfold wL_law_b1021
  exact ⟨p1, o_driver (N := fun S' => k S' (A 0) (A 70) (A 110) (A 111) (v5 + 6)) ja hi hk (fun S2 r z => ⟨p1, z⟩)⟩
theorem ca_b1077 (ja : JA i A E ls ns nl nc nd G P W mk eng brk aact life sl K pn ds V n ol S D) (hi : i < 512) (hp : Vp5 v5 L) (hk : ∀ S', JS (i + 1) S' (A 0) (A 70) (A 110) (A 111) → k S' (A 0) (A 70) (A 110) (A 111) (v5 + 6)) : wL_law_b1077 xs L k S (A 0) (A 70) (A 110) (A 111) v5 := by
  obtain ⟨p1, p2, p3, p4, p5⟩ := hp
  unfold wL_law_b1077
  exact o_freedom (N := fun S' => k S' (A 0) (A 70) (A 110) (A 111) (v5 + 6)) ja hi hk
theorem ca_b1090 (ja : JA i A E ls ns nl nc nd G P W mk eng brk aact life sl K pn ds V n ol S D) (hi : i < 512) (hp : Vp5 v5 L) (hk : ∀ S', JS (i + 1) S' (A 0) (A 70) (A 110) (A 111) → k S' (A 0) (A 70) (A 110) (A 111) (v5 + 6)) : wL_law_b1090 xs L k S (A 0) (A 70) (A 110) (A 111) v5 := by
  obtain ⟨p1, p2, p3, p4, p5⟩ := hp
  unfold wL_law_b1090
  exact ⟨p1, o_wornOver (N := fun S' => k S' (A 0) (A 70) (A 110) (A 111) (v5 + 6)) ja hi hk (fun S2 r z => ⟨p1, z⟩)⟩
theorem ca_b1145 (ja : JA i A E ls ns nl nc nd G P W mk eng brk aact life sl K pn ds V n ol S D) (hi : i < 512) (hp : Vp5 v5 L) (hk : ∀ S', JS (i + 1) S' (A 0) (A 70) (A 110) (A 111) → k S' (A 0) (A 70) (A 110) (A 111) (v5 + 6)) : wL_law_b1145 xs L k S (A 0) (A 70) (A 110) (A 111) v5 := by
  obtain ⟨p1, p2, p3, p4, p5⟩ := hp
  unfold wL_law_b1145
  exact ⟨p1, o_wornUnder (N := fun S' => k S' (A 0) (A 70) (A 110) (A 111) (v5 + 6)) ja hi hk (fun S2 r z => ⟨p1, z⟩)⟩
theorem ca_b1200 (ja : JA i A E ls ns nl nc nd G P W mk eng brk aact life sl K pn ds V n ol S D) (hi : i < 512) (hp : Vp5 v5 L) (hk : ∀ S', JS (i + 1) S' (A 0) (A 70) (A 110) (A 111) → k S' (A 0) (A 70) (A 110) (A 111) (v5 + 6)) : wL_law_b1200 xs L k S (A 0) (A 70) (A 110) (A 111) v5 := by
  obtain ⟨p1, p2, p3, p4, p5⟩ := hp
  unfold wL_law_b1200
  exact ⟨p1, o_isBroken (N := fun S' => k S' (A 0) (A 70) (A 110) (A 111) (v5 + 6)) ja hi hk (fun S2 r z => ⟨p1, z⟩)⟩
theorem ca_b1263 (ja : JA i A E ls ns nl nc nd G P W mk eng brk aact life sl K pn ds V n ol S D) (hi : i < 512) (hp : Vp5 v5 L) (hk : ∀ S', JS (i + 1) S' (A 0) (A 70) (A 110) (A 111) → k S' (A 0) (A 70) (A 110) (A 111) (v5 + 6)) : wL_law_b1263 xs L k S (A 0) (A 70) (A 110) (A 111) v5 := by
  obtain ⟨p1, p2, p3, p4, p5⟩ := hp
  unfold wL_law_b1263
  exact ⟨p1, o_repair (N := fun S' => k S' (A 0) (A 70) (A 110) (A 111) (v5 + 6)) ja hi hk (fun S2 r z => ⟨p1, z⟩)⟩
theorem ca_b1319 (ja : JA i A E ls ns nl nc nd G P W mk eng brk aact life sl K pn ds V n ol S D) (hi : i < 512) (hp : Vp5 v5 L) (hk : ∀ S', JS (i + 1) S' (A 0) (A 70) (A 110) (A 111) → k S' (A 0) (A 70) (A 110) (A 111) (v5 + 6)) : wL_law_b1319 xs L k S (A 0) (A 70) (A 110) (A 111) v5 := by
  obtain ⟨p1, p2, p3, p4, p5⟩ := hp
  unfold wL_law_b1319
  exact ⟨p1, o_slackOfOver (N := fun S' => k S' (A 0) (A 70) (A 110) (A 111) (v5 + 6)) ja hi hk (fun S2 r z => ⟨p1, z⟩)⟩
theorem ca_b1374 (ja : JA i A E ls ns nl nc nd G P W mk eng brk aact life sl K pn ds V n ol S D) (hi : i < 512) (hp : Vp5 v5 L) (hk : ∀ S', JS (i + 1) S' (A 0) (A 70) (A 110) (A 111) → k S' (A 0) (A 70) (A 110) (A 111) (v5 + 6)) : wL_law_b1374 xs L k S (A 0) (A 70) (A 110) (A 111) v5 := by
  obtain ⟨p1, p2, p3, p4, p5⟩ := hp
  unfold wL_law_b1374
  exact ⟨p1, o_slackOfUnder (N := fun S' => k S' (A 0) (A 70) (A 110) (A 111) (v5 + 6)) ja hi hk (fun S2 r z => ⟨p1, z⟩)⟩
theorem ca_b1429 (ja : JA i A E ls ns nl nc nd G P W mk eng brk aact life sl K pn ds V n ol S D) (hi : i < 512) (hp : Vp5 v5 L) (hk : ∀ S', JS (i + 1) S' (A 0) (A 70) (A 110) (A 111) → k S' (A 0) (A 70) (A 110) (A 111) (v5 + 6)) : wL_law_b1429 xs L k S (A 0) (A 70) (A 110) (A 111) v5 := by
  obtain ⟨p1, p2, p3, p4, p5⟩ := hp
  unfold wL_law_b1429
  exact ⟨p1, o_cam (N := fun S' => k S' (A 0) (A 70) (A 110) (A 111) (v5 + 6)) ja hi hk (fun S2 r z => ⟨p1, z⟩)⟩
theorem ca_b1485 (ja : JA i A E ls ns nl nc nd G P W mk eng brk aact life sl K pn ds V n ol S D) (hi : i < 512) (hp : Vp5 v5 L) (hk : ∀ S', JS (i + 1) S' (A 0) (A 70) (A 110) (A 111) → k S' (A 0) (A 70) (A 110) (A 111) (v5 + 6)) : wL_law_b1485 xs L k S (A 0) (A 70) (A 110) (A 111) v5 := by
  obtain ⟨p1, p2, p3, p4, p5⟩ := hp
  unfold wL_law_b1485
  exact ⟨p1, p2, p3, p4, o_segment (N := fun S' => k S' (A 0) (A 70) (A 110) (A 111) (v5 + 6)) ja hi hk (fun S2 r z => ⟨p1, p2, p3, p4, z⟩)⟩
theorem ca_b1579 (ja : JA i A E ls ns nl nc nd G P W mk eng brk aact life sl K pn ds V n ol S D) (hi : i < 512) (hp : Vp5 v5 L) (hk : ∀ S', JS (i + 1) S' (A 0) (A 70) (A 110) (A 111) → k S' (A 0) (A 70) (A 110) (A 111) (v5 + 6)) : wL_law_b1579 xs L k S (A 0) (A 70) (A 110) (A 111) v5 := by
  obtain ⟨p1, p2, p3, p4, p5⟩ := hp
  unfold wL_law_b1579
  exact ⟨p1, o_clear (N := fun S' => k S' (A 0) (A 70) (A 110) (A 111) (v5 + 6)) ja hi hk (fun S2 r z => ⟨p1, z⟩)⟩
theorem ca_b1635 (ja : JA i A E ls ns nl nc nd G P W mk eng brk aact life sl K pn ds V n ol S D) (hi : i < 512) (hp : Vp5 v5 L) (hk : ∀ S', JS (i + 1) S' (A 0) (A 70) (A 110) (A 111) → k S' (A 0) (A 70) (A 110) (A 111) (v5 + 6)) : wL_law_b1635 xs L k S (A 0) (A 70) (A 110) (A 111) v5 := by
  obtain ⟨p1, p2, p3, p4, p5⟩ := hp
  unfold wL_law_b1635
  exact ⟨p1, o_heightOver (N := fun S' => k S' (A 0) (A 70) (A 110) (A 111) (v5 + 6)) ja hi hk (fun S2 r z => ⟨p1, z⟩)⟩
theorem ca_b1690 (ja : JA i A E ls ns nl nc nd G P W mk eng brk aact life sl K pn ds V n ol S D) (hi : i < 512) (hp : Vp5 v5 L) (hk : ∀ S', JS (i + 1) S' (A 0) (A 70) (A 110) (A 111) → k S' (A 0) (A 70) (A 110) (A 111) (v5 + 6)) : wL_law_b1690 xs L k S (A 0) (A 70) (A 110) (A 111) v5 := by
  obtain ⟨p1, p2, p3, p4, p5⟩ := hp
  unfold wL_law_b1690
  exact ⟨p1, o_heightUnder (N := fun S' => k S' (A 0) (A 70) (A 110) (A 111) (v5 + 6)) ja hi hk (fun S2 r z => ⟨p1, z⟩)⟩
theorem ca_b1745 (ja : JA i A E ls ns nl nc nd G P W mk eng brk aact life sl K pn ds V n ol S D) (hi : i < 512) (hp : Vp5 v5 L) (hk : ∀ S', JS (i + 1) S' (A 0) (A 70) (A 110) (A 111) → k S' (A 0) (A 70) (A 110) (A 111) (v5 + 6)) : wL_law_b1745 xs L k S (A 0) (A 70) (A 110) (A 111) v5 := by
  obtain ⟨p1, p2, p3, p4, p5⟩ := hp
  unfold wL_law_b1745
  exact ⟨p1, o_steepOver (N := fun S' => k S' (A 0) (A 70) (A 110) (A 111) (v5 + 6)) ja hi hk (fun S2 r z => ⟨p1, z⟩)⟩
theorem ca_b1800 (ja : JA i A E ls ns nl nc nd G P W mk eng brk aact life sl K pn ds V n ol S D) (hi : i < 512) (hp : Vp5 v5 L) (hk : ∀ S', JS (i + 1) S' (A 0) (A 70) (A 110) (A 111) → k S' (A 0) (A 70) (A 110) (A 111) (v5 + 6)) : wL_law_b1800 xs L k S (A 0) (A 70) (A 110) (A 111) v5 := by
  obtain ⟨p1, p2, p3, p4, p5⟩ := hp
  unfold wL_law_b1800
  exact ⟨p1, o_steepUnder (N := fun S' => k S' (A 0) (A 70) (A 110) (A 111) (v5 + 6)) ja hi hk (fun S2 r z => ⟨p1, z⟩)⟩
theorem ca_b1855 (ja : JA i A E ls ns nl nc nd G P W mk eng brk aact life sl K pn ds V n ol S D) (hi : i < 512) (hp : Vp5 v5 L) (hk : ∀ S', JS (i + 1) S' (A 0) (A 70) (A 110) (A 111) → k S' (A 0) (A 70) (A 110) (A 111) (v5 + 6)) : wL_law_b1855 xs L k S (A 0) (A 70) (A 110) (A 111) v5 := by
  obtain ⟨p1, p2, p3, p4, p5⟩ := hp
  unfold wL_law_b1855
  exact ⟨p1, p2, p3, o_wish (N := fun S' => k S' (A 0) (A 70) (A 110) (A 111) (v5 + 6)) ja hi hk (fun S2 r z => ⟨p1, p2, p3, z⟩)⟩
theorem ca_b1935 (ja : JA i A E ls ns nl nc nd G P W mk eng brk aact life sl K pn ds V n ol S D) (hi : i < 512) (hp : Vp5 v5 L) (hk : ∀ S', JS (i + 1) S' (A 0) (A 70) (A 110) (A 111) → k S' (A 0) (A 70) (A 110) (A 111) (v5 + 6)) : wL_law_b1935 xs L k S (A 0) (A 70) (A 110) (A 111) v5 := by
  obtain ⟨p1, p2, p3, p4, p5⟩ := hp
  unfold wL_law_b1935
  exact ⟨p1, p2, p3, o_make (N := fun S' => k S' (A 0) (A 70) (A 110) (A 111) (v5 + 6)) ja hi hk (fun S2 r z => ⟨p1, p2, p3, z⟩)⟩
theorem ca_b2017 (ja : JA i A E ls ns nl nc nd G P W mk eng brk aact life sl K pn ds V n ol S D) (hi : i < 512) (hp : Vp5 v5 L) (hk : ∀ S', JS (i + 1) S' (A 0) (A 70) (A 110) (A 111) → k S' (A 0) (A 70) (A 110) (A 111) (v5 + 6)) : wL_law_b2017 xs L k S (A 0) (A 70) (A 110) (A 111) v5 := by
  obtain ⟨p1, p2, p3, p4, p5⟩ := hp
  unfold wL_law_b2017
  exact ⟨p1, o_drum (N := fun S' => k S' (A 0) (A 70) (A 110) (A 111) (v5 + 6)) ja hi hk (fun S2 r z => ⟨p1, z⟩)⟩
theorem ca_b2073 (ja : JA i A E ls ns nl nc nd G P W mk eng brk aact life sl K pn ds V n ol S D) (hi : i < 512) (hp : Vp5 v5 L) (hk : ∀ S', JS (i + 1) S' (A 0) (A 70) (A 110) (A 111) → k S' (A 0) (A 70) (A 110) (A 111) (v5 + 6)) : wL_law_b2073 xs L k S (A 0) (A 70) (A 110) (A 111) v5 := by
  obtain ⟨p1, p2, p3, p4, p5⟩ := hp
  unfold wL_law_b2073
  by_cases c : xs (v5 + 4).toNatClampNeg = 0
  · exact ⟨p1, p2, p3, p4, if_p c (o_pin (v := false) (N := fun S' => k S' (A 0) (A 70) (A 110) (A 111) (v5 + 6)) ja hi hk (fun S2 r z => ⟨p1, p2, p3, p4, if_p c z⟩))⟩
  · exact ⟨p1, p2, p3, p4, if_n c (o_pin (v := true) (N := fun S' => k S' (A 0) (A 70) (A 110) (A 111) (v5 + 6)) ja hi hk (fun S2 r z => ⟨p1, p2, p3, p4, if_n c z⟩))⟩
theorem ca_b2188 (ja : JA i A E ls ns nl nc nd G P W mk eng brk aact life sl K pn ds V n ol S D) (hi : i < 512) (hp : Vp5 v5 L) (hk : ∀ S', JS (i + 1) S' (A 0) (A 70) (A 110) (A 111) → k S' (A 0) (A 70) (A 110) (A 111) (v5 + 6)) : wL_law_b2188 xs L k S (A 0) (A 70) (A 110) (A 111) v5 := by
  obtain ⟨p1, p2, p3, p4, p5⟩ := hp
  unfold wL_law_b2188
  exact ⟨p1, p2, o_struck (N := fun S' => k S' (A 0) (A 70) (A 110) (A 111) (v5 + 6)) ja hi hk (fun S2 r z => ⟨p1, p2, z⟩)⟩
theorem ca_b2256 (ja : JA i A E ls ns nl nc nd G P W mk eng brk aact life sl K pn ds V n ol S D) (hi : i < 512) (hp : Vp5 v5 L) (hk : ∀ S', JS (i + 1) S' (A 0) (A 70) (A 110) (A 111) → k S' (A 0) (A 70) (A 110) (A 111) (v5 + 6)) : wL_law_b2256 xs L k S (A 0) (A 70) (A 110) (A 111) v5 := by
  obtain ⟨p1, p2, p3, p4, p5⟩ := hp
  unfold wL_law_b2256
  exact ⟨p1, p2, p3, p4, o_bars (N := fun S' => k S' (A 0) (A 70) (A 110) (A 111) (v5 + 6)) ja hi hk (fun S2 r z => ⟨p1, p2, p3, p4, z⟩)⟩
theorem ca_b2348 (ja : JA i A E ls ns nl nc nd G P W mk eng brk aact life sl K pn ds V n ol S D) (hi : i < 512) (hp : Vp5 v5 L) (hk : ∀ S', JS (i + 1) S' (A 0) (A 70) (A 110) (A 111) → k S' (A 0) (A 70) (A 110) (A 111) (v5 + 6)) : wL_law_b2348 xs L k S (A 0) (A 70) (A 110) (A 111) v5 := by
  obtain ⟨p1, p2, p3, p4, p5⟩ := hp
  unfold wL_law_b2348
  by_cases c : xs (v5 + 5).toNatClampNeg = 0
  · exact ⟨p1, p2, p3, p4, p5, if_p c (o_limitOver (v := false) (N := fun S' => k S' (A 0) (A 70) (A 110) (A 111) (v5 + 6)) ja hi hk (fun S2 r z => ⟨p1, p2, p3, p4, p5, if_p c z⟩))⟩
  · exact ⟨p1, p2, p3, p4, p5, if_n c (o_limitOver (v := true) (N := fun S' => k S' (A 0) (A 70) (A 110) (A 111) (v5 + 6)) ja hi hk (fun S2 r z => ⟨p1, p2, p3, p4, p5, if_n c z⟩))⟩
theorem ca_b2467 (ja : JA i A E ls ns nl nc nd G P W mk eng brk aact life sl K pn ds V n ol S D) (hi : i < 512) (hp : Vp5 v5 L) (hk : ∀ S', JS (i + 1) S' (A 0) (A 70) (A 110) (A 111) → k S' (A 0) (A 70) (A 110) (A 111) (v5 + 6)) : wL_law_b2467 xs L k S (A 0) (A 70) (A 110) (A 111) v5 := by
  obtain ⟨p1, p2, p3, p4, p5⟩ := hp
  unfold wL_law_b2467
  by_cases c : xs (v5 + 5).toNatClampNeg = 0
  · exact ⟨p1, p2, p3, p4, p5, if_p c (o_limitUnder (v := false) (N := fun S' => k S' (A 0) (A 70) (A 110) (A 111) (v5 + 6)) ja hi hk (fun S2 r z => ⟨p1, p2, p3, p4, p5, if_p c z⟩))⟩
  · exact ⟨p1, p2, p3, p4, p5, if_n c (o_limitUnder (v := true) (N := fun S' => k S' (A 0) (A 70) (A 110) (A 111) (v5 + 6)) ja hi hk (fun S2 r z => ⟨p1, p2, p3, p4, p5, if_n c z⟩))⟩
theorem ca_b2586 (ja : JA i A E ls ns nl nc nd G P W mk eng brk aact life sl K pn ds V n ol S D) (hi : i < 512) (hp : Vp5 v5 L) (hk : ∀ S', JS (i + 1) S' (A 0) (A 70) (A 110) (A 111) → k S' (A 0) (A 70) (A 110) (A 111) (v5 + 6)) : wL_law_b2586 xs L k S (A 0) (A 70) (A 110) (A 111) v5 := by
  obtain ⟨p1, p2, p3, p4, p5⟩ := hp
  unfold wL_law_b2586
  by_cases c : xs (v5 + 5).toNatClampNeg = 0
  · exact ⟨p1, p2, p3, p4, p5, if_p c (o_angleOver (v := false) (N := fun S' => k S' (A 0) (A 70) (A 110) (A 111) (v5 + 6)) ja hi hk (fun S2 r z => ⟨p1, p2, p3, p4, p5, if_p c z⟩))⟩
  · exact ⟨p1, p2, p3, p4, p5, if_n c (o_angleOver (v := true) (N := fun S' => k S' (A 0) (A 70) (A 110) (A 111) (v5 + 6)) ja hi hk (fun S2 r z => ⟨p1, p2, p3, p4, p5, if_n c z⟩))⟩
theorem ca_b2705 (ja : JA i A E ls ns nl nc nd G P W mk eng brk aact life sl K pn ds V n ol S D) (hi : i < 512) (hp : Vp5 v5 L) (hk : ∀ S', JS (i + 1) S' (A 0) (A 70) (A 110) (A 111) → k S' (A 0) (A 70) (A 110) (A 111) (v5 + 6)) : wL_law_b2705 xs L k S (A 0) (A 70) (A 110) (A 111) v5 := by
  obtain ⟨p1, p2, p3, p4, p5⟩ := hp
  unfold wL_law_b2705
  by_cases c : xs (v5 + 5).toNatClampNeg = 0
  · exact ⟨p1, p2, p3, p4, p5, if_p c (o_angleUnder (v := false) (N := fun S' => k S' (A 0) (A 70) (A 110) (A 111) (v5 + 6)) ja hi hk (fun S2 r z => ⟨p1, p2, p3, p4, p5, if_p c z⟩))⟩
  · exact ⟨p1, p2, p3, p4, p5, if_n c (o_angleUnder (v := true) (N := fun S' => k S' (A 0) (A 70) (A 110) (A 111) (v5 + 6)) ja hi hk (fun S2 r z => ⟨p1, p2, p3, p4, p5, if_n c z⟩))⟩
theorem ca_b2824 (ja : JA i A E ls ns nl nc nd G P W mk eng brk aact life sl K pn ds V n ol S D) (hi : i < 512) (hp : Vp5 v5 L) (hk : ∀ S', JS (i + 1) S' (A 0) (A 70) (A 110) (A 111) → k S' (A 0) (A 70) (A 110) (A 111) (v5 + 6)) : wL_law_b2824 xs L k S (A 0) (A 70) (A 110) (A 111) v5 := by
  obtain ⟨p1, p2, p3, p4, p5⟩ := hp
  unfold wL_law_b2824
  by_cases c : xs (v5 + 3).toNatClampNeg = 0
  · exact ⟨p1, p2, p3, if_p c (o_teeth (v := false) (N := fun S' => k S' (A 0) (A 70) (A 110) (A 111) (v5 + 6)) ja hi hk (fun S2 r z => ⟨p1, p2, p3, if_p c z⟩))⟩
  · exact ⟨p1, p2, p3, if_n c (o_teeth (v := true) (N := fun S' => k S' (A 0) (A 70) (A 110) (A 111) (v5 + 6)) ja hi hk (fun S2 r z => ⟨p1, p2, p3, if_n c z⟩))⟩
theorem ca_b2920 (ja : JA i A E ls ns nl nc nd G P W mk eng brk aact life sl K pn ds V n ol S D) (hi : i < 512) (hp : Vp5 v5 L) (hk : ∀ S', JS (i + 1) S' (A 0) (A 70) (A 110) (A 111) → k S' (A 0) (A 70) (A 110) (A 111) (v5 + 6)) : wL_law_b2920 xs L k S (A 0) (A 70) (A 110) (A 111) v5 := by
  obtain ⟨p1, p2, p3, p4, p5⟩ := hp
  unfold wL_law_b2920
  exact ⟨p1, p2, o_pairs (N := fun S' => k S' (A 0) (A 70) (A 110) (A 111) (v5 + 6)) ja hi hk (fun S2 r z => ⟨p1, p2, z⟩)⟩
theorem ca_b2988 (ja : JA i A E ls ns nl nc nd G P W mk eng brk aact life sl K pn ds V n ol S D) (hi : i < 512) (hp : Vp5 v5 L) (hk : ∀ S', JS (i + 1) S' (A 0) (A 70) (A 110) (A 111) → k S' (A 0) (A 70) (A 110) (A 111) (v5 + 6)) : wL_law_b2988 xs L k S (A 0) (A 70) (A 110) (A 111) v5 := by
  obtain ⟨p1, p2, p3, p4, p5⟩ := hp
  unfold wL_law_b2988
  exact o_checksum (N := fun S' => k S' (A 0) (A 70) (A 110) (A 111) (v5 + 6)) ja hi hk
theorem ca_b3002 (ja : JA i A E ls ns nl nc nd G P W mk eng brk aact life sl K pn ds V n ol S D) (hi : i < 512) (hp : Vp5 v5 L) (hk : ∀ S', JS (i + 1) S' (A 0) (A 70) (A 110) (A 111) → k S' (A 0) (A 70) (A 110) (A 111) (v5 + 6)) : wL_law_b3002 xs L k S (A 0) (A 70) (A 110) (A 111) v5 := by
  obtain ⟨p1, p2, p3, p4, p5⟩ := hp
  unfold wL_law_b3002
  exact o_drivenShare (N := fun S' => k S' (A 0) (A 70) (A 110) (A 111) (v5 + 6)) ja hi hk (fun S2 r z => z)
theorem ca_b3068 (ja : JA i A E ls ns nl nc nd G P W mk eng brk aact life sl K pn ds V n ol S D) (hi : i < 512) (hp : Vp5 v5 L) (hk : ∀ S', JS (i + 1) S' (A 0) (A 70) (A 110) (A 111) → k S' (A 0) (A 70) (A 110) (A 111) (v5 + 6)) : wL_law_b3068 xs L k S (A 0) (A 70) (A 110) (A 111) v5 := by
  obtain ⟨p1, p2, p3, p4, p5⟩ := hp
  unfold wL_law_b3068
  exact o_meanWorn (N := fun S' => k S' (A 0) (A 70) (A 110) (A 111) (v5 + 6)) ja hi hk (fun S2 r z => z)
theorem ca_b3133 (ja : JA i A E ls ns nl nc nd G P W mk eng brk aact life sl K pn ds V n ol S D) (hi : i < 512) (hp : Vp5 v5 L) (hk : ∀ S', JS (i + 1) S' (A 0) (A 70) (A 110) (A 111) → k S' (A 0) (A 70) (A 110) (A 111) (v5 + 6)) : wL_law_b3133 xs L k S (A 0) (A 70) (A 110) (A 111) v5 := by
  obtain ⟨p1, p2, p3, p4, p5⟩ := hp
  unfold wL_law_b3133
  exact o_isSound (N := fun S' => k S' (A 0) (A 70) (A 110) (A 111) (v5 + 6)) ja hi hk
end LA9
theorem l6 : ∀ L, L < 6 → (Int32.ofNat L - 6).toInt = (L : Int) - 6 := by decide
theorem ofL {L : Nat} (h : L ≤ 3072) : (Int32.ofNat L - 6).toInt = (L : Int) - 6 := by
  by_cases c : L < 6
  · exact l6 L c
  · have e : Int32.ofNat L - 6 = nI (L - 6) := nI_sub (a := L) (b := 6) (by omega)
    rw [e, nI_toInt (by omega)]
    omega
theorem law_loop {xs : Nat → Int32} {L : Nat} (hL : L ≤ 3072) {S : Hp} {v1 v2 v3 v4 : Nat} (h : JS 0 S v1 v2 v3 v4) : it6 (wL_law_b28 xs L) 513 S v1 v2 v3 v4 0 := by
  refine it6_up (fun j S1 a b c d e => JS j S1 a b c d ∧ e = nI (6 * j)) 512 ?_ ?_ ⟨h, rfl⟩ (by decide)
  · rintro j hj S1 _ _ _ _ _ k ⟨⟨A, E, ls, ns, nl, nc, nd, G, P, W, mk, eng, brk, aact, life, sl, K, pn, ds, V, n, ol, D, rfl, rfl, rfl, rfl, ja⟩, rfl⟩ hk
    have hk' : ∀ S', JS (j + 1) S' (A 0) (A 70) (A 110) (A 111) → k S' (A 0) (A 70) (A 110) (A 111) (nI (6 * j) + 6) := fun S' q => hk _ _ _ _ _ _ ⟨q, by rw [show (6 : Int32) = nI 6 from rfl, nI_add]; rfl⟩
    unfold wL_law_b28
    refine ⟨fun _ => trivial, fun q => ?_⟩
    have q6 : 6 * j + 6 ≤ L := by
      have q2 := Int.not_lt.mp (fun w => q (Int32.lt_iff_toInt_lt.mpr w))
      rw [ofL hL, nI_toInt (by omega)] at q2
      omega
    have vp : ∀ c, c < 6 → vp_in (nI (6 * j) + nI c) L := fun c hc => by
      rw [nI_add]
      exact nI_in (by omega) (by omega)
    have p0 : vp_in (nI (6 * j)) L := nI_in (by omega) (by omega)
    have hp : Vp5 (nI (6 * j)) L := ⟨vp 1 (by decide), vp 2 (by decide), vp 3 (by decide), vp 4 (by decide), vp 5 (by decide)⟩
    refine ⟨p0, fun _ => ca_b228 ja hj hp hk', fun _ => ca_b272 ja hj hp hk', fun _ => ca_b378 ja hj hp hk', fun _ => ca_b482 ja hj hp hk', fun _ => ca_b573 ja hj hp hk', fun _ => ca_b641 ja hj hp hk', fun _ => ca_b709 ja hj hp hk', fun _ => ca_b777 ja hj hp hk', fun _ => ca_b832 ja hj hp hk', fun _ => ca_b887 ja hj hp hk', fun _ => ca_b954 ja hj hp hk', fun _ => ca_b1021 ja hj hp hk', fun _ => ca_b1077 ja hj hp hk', fun _ => ca_b1090 ja hj hp hk', fun _ => ca_b1145 ja hj hp hk', fun _ => ca_b1200 ja hj hp hk', fun _ => ca_b1263 ja hj hp hk', fun _ => ca_b1319 ja hj hp hk', fun _ => ca_b1374 ja hj hp hk', fun _ => ca_b1429 ja hj hp hk', fun _ => ca_b1485 ja hj hp hk', fun _ => ca_b1579 ja hj hp hk', fun _ => ca_b1635 ja hj hp hk', fun _ => ca_b1690 ja hj hp hk', fun _ => ca_b1745 ja hj hp hk', fun _ => ca_b1800 ja hj hp hk', fun _ => ca_b1855 ja hj hp hk', fun _ => ca_b1935 ja hj hp hk', fun _ => ca_b2017 ja hj hp hk', fun _ => ca_b2073 ja hj hp hk', fun _ => ca_b2188 ja hj hp hk', fun _ => ca_b2256 ja hj hp hk', fun _ => ca_b2348 ja hj hp hk', fun _ => ca_b2467 ja hj hp hk', fun _ => ca_b2586 ja hj hp hk', fun _ => ca_b2705 ja hj hp hk', fun _ => ca_b2824 ja hj hp hk', fun _ => ca_b2920 ja hj hp hk', fun _ => ca_b2988 ja hj hp hk', fun _ => ca_b3002 ja hj hp hk', fun _ => ca_b3068 ja hj hp hk', fun _ => ca_b3133 ja hj hp hk', fun _ => ?_⟩
    exact hk' _ (JA.nx ja hj).js
  · rintro S1 _ _ _ _ _ k ⟨-, rfl⟩
    unfold wL_law_b28
    refine ⟨fun _ => trivial, fun q => absurd ?_ q⟩
    refine Int32.lt_iff_toInt_lt.mpr ?_
    rw [ofL hL, nI_toInt (by omega)]
    omega
