/-! THE CONSTRUCTORS: motions, and the class -/
set_option maxRecDepth 100000
section IN9
variable {b : Nat → Bool} {F R : Nat → Nat → Option Nat} {X : Nat → Bool} {A : Nat → Nat} {S : Hp} {D : Dt}
theorem pre_getFR {i r r' q v : Nat} (h : Pre b F R X A S D) (hF : F i r = some r') (e : A r = q) (e' : A r' = v) : S.FR i q = some v := by
  have := (h.2.2.1 i r r' hF).2.2.2
  rw [e, e'] at this
  exact this
theorem q_mot0 {Φ : Hp → Prop} {q : Nat} (h : Pre b F R X A S D) (hr : b 20 = true) (e : A 20 = q) (hb : ∀ x, x ∈ [11, 34, 35, 12, 36, 37, 13, 38, 39, 60, 63] → b x = false) (k : ∀ S' a11 a34 a35 a12 a36 a37 a13 a38 a39 a60 a63, Pre (bu (bu (bu (bu (bu (bu (bu (bu (bu (bu (bu b 11) 34) 35) 12) 36) 37) 13) 38) 39) 60) 63) (fu (fu (fu (fu (fu (fu (fu (fu (fu (fu (fu F 256 11 34) 257 11 35) 384 20 11) 256 12 36) 257 12 37) 385 20 12) 256 13 38) 257 13 39) 386 20 13) 387 20 60) 388 20 63) R X (au (au (au (au (au (au (au (au (au (au (au A 11 a11) 34 a34) 35 a35) 12 a12) 36 a36) 37 a37) 13 a13) 38 a38) 39 a39) 60 a60) 63 a63) S' (((D.fillJ 35 14 1).fillJ 37 14 1).fillJ 39 14 1) → Φ S') : wX6_init S q Φ := by
  unfold wX6_init wX6_init_b0
  intro a11 S11 f11 e11
  have h11 := pre_new (r0 := 11) (k := 4) (n := 0) h f11 (hb 11 (by decide)) rfl rfl
  rw [← e11] at h11
  refine q_row (r := 11) (u := 34) (v := 35) (n := 14) h11 rfl rfl rfl (hb 34 (by decide)) (hb 35 (by decide)) rfl rfl rfl rfl rfl (by decide) (fun T11 a34 a35 g11 => ⟨pre_is g11 (r := 20) hr rfl e, fun U11 d11 => ?_⟩)
  have w11 := pre_FR (i := 384) (r := 20) (r' := 11) (v := a11) g11 hr rfl (by decide) e rfl
  rw [← d11] at w11
  intro a12 S12 f12 e12
  have h12 := pre_new (r0 := 12) (k := 4) (n := 0) w11 f12 (hb 12 (by decide)) rfl rfl
  rw [← e12] at h12
  refine q_row (r := 12) (u := 36) (v := 37) (n := 14) h12 rfl rfl rfl (hb 36 (by decide)) (hb 37 (by decide)) rfl rfl rfl rfl rfl (by decide) (fun T12 a36 a37 g12 => ⟨pre_is g12 (r := 20) hr rfl e, fun U12 d12 => ?_⟩)
  have w12 := pre_FR (i := 385) (r := 20) (r' := 12) (v := a12) g12 hr rfl (by decide) e rfl
  rw [← d12] at w12
  intro a13 S13 f13 e13
  have h13 := pre_new (r0 := 13) (k := 4) (n := 0) w12 f13 (hb 13 (by decide)) rfl rfl
  rw [← e13] at h13
  refine q_row (r := 13) (u := 38) (v := 39) (n := 14) h13 rfl rfl rfl (hb 38 (by decide)) (hb 39 (by decide)) rfl rfl rfl rfl rfl (by decide) (fun T13 a38 a39 g13 => ⟨pre_is g13 (r := 20) hr rfl e, fun U13 d13 => ?_⟩)
  have w13 := pre_FR (i := 386) (r := 20) (r' := 13) (v := a13) g13 hr rfl (by decide) e rfl
  rw [← d13] at w13
  intro a60 S60 f60 e60 U60 d60
  have h60 := pre_new (r0 := 60) (k := 22) (n := 16) w13 f60 (hb 60 (by decide)) rfl rfl
  rw [← e60] at h60
  have w60 := pre_FR (i := 387) (r := 20) (r' := 60) (v := a60) h60 hr rfl (by decide) e rfl
  rw [← d60] at w60
  intro a63 S63 f63 e63 U63 d63
  have h63 := pre_new (r0 := 63) (k := 23) (n := 16) w60 f63 (hb 63 (by decide)) rfl rfl
  rw [← e63] at h63
  have w63 := pre_FR (i := 388) (r := 20) (r' := 63) (v := a63) h63 hr rfl (by decide) e rfl
  rw [← d63] at w63
  exact k _ _ _ _ _ _ _ _ _ _ _ _ w63
theorem q_mot1 {Φ : Hp → Prop} {q : Nat} (h : Pre b F R X A S D) (hr : b 21 = true) (e : A 21 = q) (hb : ∀ x, x ∈ [14, 40, 41, 15, 42, 43, 16, 44, 45, 61, 64] → b x = false) (k : ∀ S' a14 a40 a41 a15 a42 a43 a16 a44 a45 a61 a64, Pre (bu (bu (bu (bu (bu (bu (bu (bu (bu (bu (bu b 14) 40) 41) 15) 42) 43) 16) 44) 45) 61) 64) (fu (fu (fu (fu (fu (fu (fu (fu (fu (fu (fu F 256 14 40) 257 14 41) 384 21 14) 256 15 42) 257 15 43) 385 21 15) 256 16 44) 257 16 45) 386 21 16) 387 21 61) 388 21 64) R X (au (au (au (au (au (au (au (au (au (au (au A 14 a14) 40 a40) 41 a41) 15 a15) 42 a42) 43 a43) 16 a16) 44 a44) 45 a45) 61 a61) 64 a64) S' (((D.fillJ 41 14 1).fillJ 43 14 1).fillJ 45 14 1) → Φ S') : wX6_init S q Φ := by
  unfold wX6_init wX6_init_b0
  intro a14 S14 f14 e14
  have h14 := pre_new (r0 := 14) (k := 4) (n := 0) h f14 (hb 14 (by decide)) rfl rfl
  rw [← e14] at h14
  refine q_row (r := 14) (u := 40) (v := 41) (n := 14) h14 rfl rfl rfl (hb 40 (by decide)) (hb 41 (by decide)) rfl rfl rfl rfl rfl (by decide) (fun T14 a40 a41 g14 => ⟨pre_is g14 (r := 21) hr rfl e, fun U14 d14 => ?_⟩)
  have w14 := pre_FR (i := 384) (r := 21) (r' := 14) (v := a14) g14 hr rfl (by decide) e rfl
  rw [← d14] at w14
  intro a15 S15 f15 e15
  have h15 := pre_new (r0 := 15) (k := 4) (n := 0) w14 f15 (hb 15 (by decide)) rfl rfl
  rw [← e15] at h15
  refine q_row (r := 15) (u := 42) (v := 43) (n := 14) h15 rfl rfl rfl (hb 42 (by decide)) (hb 43 (by decide)) rfl rfl rfl rfl rfl (by decide) (fun T15 a42 a43 g15 => ⟨pre_is g15 (r := 21) hr rfl e, fun U15 d15 => ?_⟩)
  have w15 := pre_FR (i := 385) (r := 21) (r' := 15) (v := a15) g15 hr rfl (by decide) e rfl
  rw [← d15] at w15
  intro a16 S16 f16 e16
  have h16 := pre_new (r0 := 16) (k := 4) (n := 0) w15 f16 (hb 16 (by decide)) rfl rfl
  rw [← e16] at h16
  refine q_row (r := 16) (u := 44) (v := 45) (n := 14) h16 rfl rfl rfl (hb 44 (by decide)) (hb 45 (by decide)) rfl rfl rfl rfl rfl (by decide) (fun T16 a44 a45 g16 => ⟨pre_is g16 (r := 21) hr rfl e, fun U16 d16 => ?_⟩)
  have w16 := pre_FR (i := 386) (r := 21) (r' := 16) (v := a16) g16 hr rfl (by decide) e rfl
  rw [← d16] at w16
  intro a61 S61 f61 e61 U61 d61
  have h61 := pre_new (r0 := 61) (k := 22) (n := 16) w16 f61 (hb 61 (by decide)) rfl rfl
  rw [← e61] at h61
  have w61 := pre_FR (i := 387) (r := 21) (r' := 61) (v := a61) h61 hr rfl (by decide) e rfl
  rw [← d61] at w61
  intro a64 S64 f64 e64 U64 d64
  have h64 := pre_new (r0 := 64) (k := 23) (n := 16) w61 f64 (hb 64 (by decide)) rfl rfl
  rw [← e64] at h64
  have w64 := pre_FR (i := 388) (r := 21) (r' := 64) (v := a64) h64 hr rfl (by decide) e rfl
  rw [← d64] at w64
  exact k _ _ _ _ _ _ _ _ _ _ _ _ w64
theorem q_mot2 {Φ : Hp → Prop} {q : Nat} (h : Pre b F R X A S D) (hr : b 22 = true) (e : A 22 = q) (hb : ∀ x, x ∈ [17, 46, 47, 18, 48, 49, 19, 50, 51, 62, 65] → b x = false) (k : ∀ S' a17 a46 a47 a18 a48 a49 a19 a50 a51 a62 a65, Pre (bu (bu (bu (bu (bu (bu (bu (bu (bu (bu (bu b 17) 46) 47) 18) 48) 49) 19) 50) 51) 62) 65) (fu (fu (fu (fu (fu (fu (fu (fu (fu (fu (fu F 256 17 46) 257 17 47) 384 22 17) 256 18 48) 257 18 49) 385 22 18) 256 19 50) 257 19 51) 386 22 19) 387 22 62) 388 22 65) R X (au (au (au (au (au (au (au (au (au (au (au A 17 a17) 46 a46) 47 a47) 18 a18) 48 a48) 49 a49) 19 a19) 50 a50) 51 a51) 62 a62) 65 a65) S' (((D.fillJ 47 14 1).fillJ 49 14 1).fillJ 51 14 1) → Φ S') : wX6_init S q Φ := by
  unfold wX6_init wX6_init_b0
  intro a17 S17 f17 e17
  have h17 := pre_new (r0 := 17) (k := 4) (n := 0) h f17 (hb 17 (by decide)) rfl rfl
  rw [← e17] at h17
  refine q_row (r := 17) (u := 46) (v := 47) (n := 14) h17 rfl rfl rfl (hb 46 (by decide)) (hb 47 (by decide)) rfl rfl rfl rfl rfl (by decide) (fun T17 a46 a47 g17 => ⟨pre_is g17 (r := 22) hr rfl e, fun U17 d17 => ?_⟩)
  have w17 := pre_FR (i := 384) (r := 22) (r' := 17) (v := a17) g17 hr rfl (by decide) e rfl
  rw [← d17] at w17
  intro a18 S18 f18 e18
  have h18 := pre_new (r0 := 18) (k := 4) (n := 0) w17 f18 (hb 18 (by decide)) rfl rfl
  rw [← e18] at h18
  refine q_row (r := 18) (u := 48) (v := 49) (n := 14) h18 rfl rfl rfl (hb 48 (by decide)) (hb 49 (by decide)) rfl rfl rfl rfl rfl (by decide) (fun T18 a48 a49 g18 => ⟨pre_is g18 (r := 22) hr rfl e, fun U18 d18 => ?_⟩)
  have w18 := pre_FR (i := 385) (r := 22) (r' := 18) (v := a18) g18 hr rfl (by decide) e rfl
  rw [← d18] at w18
  intro a19 S19 f19 e19
  have h19 := pre_new (r0 := 19) (k := 4) (n := 0) w18 f19 (hb 19 (by decide)) rfl rfl
  rw [← e19] at h19
  refine q_row (r := 19) (u := 50) (v := 51) (n := 14) h19 rfl rfl rfl (hb 50 (by decide)) (hb 51 (by decide)) rfl rfl rfl rfl rfl (by decide) (fun T19 a50 a51 g19 => ⟨pre_is g19 (r := 22) hr rfl e, fun U19 d19 => ?_⟩)
  have w19 := pre_FR (i := 386) (r := 22) (r' := 19) (v := a19) g19 hr rfl (by decide) e rfl
  rw [← d19] at w19
  intro a62 S62 f62 e62 U62 d62
  have h62 := pre_new (r0 := 62) (k := 22) (n := 16) w19 f62 (hb 62 (by decide)) rfl rfl
  rw [← e62] at h62
  have w62 := pre_FR (i := 387) (r := 22) (r' := 62) (v := a62) h62 hr rfl (by decide) e rfl
  rw [← d62] at w62
  intro a65 S65 f65 e65 U65 d65
  have h65 := pre_new (r0 := 65) (k := 23) (n := 16) w62 f65 (hb 65 (by decide)) rfl rfl
  rw [← e65] at h65
  have w65 := pre_FR (i := 388) (r := 22) (r' := 65) (v := a65) h65 hr rfl (by decide) e rfl
  rw [← d65] at w65
  exact k _ _ _ _ _ _ _ _ _ _ _ _ w65
def b7 : Nat → Bool := (bu (bu (bu (bu (bu (bu (bu (bu (bu (bu (bu (bu (bu (bu (bu (bu (bu (bu (bu (bu (bu (bu (bu (bu (bu (bu (bu (bu (bu (bu (bu (bu (bu (bu (bu (bu (bu (bu (bu (bu (bu (bu (bu (bu (bu (bu (bu (bu (bu (bu (bu (fun _ => false) 0) 1) 2) 3) 4) 5) 6) 7) 8) 9) 30) 31) 10) 32) 33) 20) 11) 34) 35) 12) 36) 37) 13) 38) 39) 60) 63) 21) 14) 40) 41) 15) 42) 43) 16) 44) 45) 61) 64) 22) 17) 46) 47) 18) 48) 49) 19) 50) 51) 62) 65)
def F7 : Nat → Nat → Option Nat := (fu (fu (fu (fu (fu (fu (fu (fu (fu (fu (fu (fu (fu (fu (fu (fu (fu (fu (fu (fu (fu (fu (fu (fu (fu (fu (fu (fu (fu (fu (fu (fu (fu (fu (fu (fu (fu (fu (fu (fu (fu (fu (fu (fu (fu (fu (fu (fu (fu (fu (fun _ _ => none) 448 0 1) 449 0 2) 450 0 3) 451 0 4) 452 0 5) 453 0 6) 454 0 7) 455 0 8) 256 9 30) 257 9 31) 456 0 9) 256 10 32) 257 10 33) 457 0 10) 256 11 34) 257 11 35) 384 20 11) 256 12 36) 257 12 37) 385 20 12) 256 13 38) 257 13 39) 386 20 13) 387 20 60) 388 20 63) 458 0 20) 256 14 40) 257 14 41) 384 21 14) 256 15 42) 257 15 43) 385 21 15) 256 16 44) 257 16 45) 386 21 16) 387 21 61) 388 21 64) 459 0 21) 256 17 46) 257 17 47) 384 22 17) 256 18 48) 257 18 49) 385 22 18) 256 19 50) 257 19 51) 386 22 19) 387 22 62) 388 22 65) 460 0 22)
def X7 : Nat → Bool := (bu (bu (bu (bu (fun _ => false) 1) 2) 3) 4)
def d7 (D : Dt) : Dt := (((((((((((((D.fillJ 31 14 1).fillJ 33 16 1).fillJ 35 14 1).fillJ 37 14 1).fillJ 39 14 1).fillJ 41 14 1).fillJ 43 14 1).fillJ 45 14 1).fillJ 47 14 1).fillJ 49 14 1).fillJ 51 14 1).setFI 462 0 (-1)).fillI 5 14 (-1))
theorem q_init7 {Φ : Hp → Prop} {x0 : Nat} (h : Pre (bu (fun _ => false) 0) (fun _ _ => none) R (fun _ => false) A S D) (e0 : A 0 = x0) (k : ∀ S' A', Pre b7 F7 R X7 A' S' (d7 D) → A' 0 = x0 → Φ S') : wX7_init S x0 Φ := by
  unfold wX7_init wX7_init_b0
  intro a1 S1 f1 e1
  have h1 := pre_new (r0 := 1) (k := 9) (n := 0) h f1 rfl rfl rfl
  rw [← e1] at h1
  refine q_list h1 (r := 1) rfl rfl rfl (fun T1 g1 => ⟨pre_is g1 (r := 0) rfl rfl e0, fun U1 d1 => ?_⟩)
  have w1 := pre_FR (i := 448) (r := 0) (r' := 1) (v := a1) g1 rfl rfl (by decide) e0 rfl
  rw [← d1] at w1
  intro a2 S2 f2 e2
  have h2 := pre_new (r0 := 2) (k := 9) (n := 0) w1 f2 rfl rfl rfl
  rw [← e2] at h2
  refine q_list h2 (r := 2) rfl rfl rfl (fun T2 g2 => ⟨pre_is g2 (r := 0) rfl rfl e0, fun U2 d2 => ?_⟩)
  have w2 := pre_FR (i := 449) (r := 0) (r' := 2) (v := a2) g2 rfl rfl (by decide) e0 rfl
  rw [← d2] at w2
  intro a3 S3 f3 e3
  have h3 := pre_new (r0 := 3) (k := 9) (n := 0) w2 f3 rfl rfl rfl
  rw [← e3] at h3
  refine q_list h3 (r := 3) rfl rfl rfl (fun T3 g3 => ⟨pre_is g3 (r := 0) rfl rfl e0, fun U3 d3 => ?_⟩)
  have w3 := pre_FR (i := 450) (r := 0) (r' := 3) (v := a3) g3 rfl rfl (by decide) e0 rfl
  rw [← d3] at w3
  intro a4 S4 f4 e4
  have h4 := pre_new (r0 := 4) (k := 9) (n := 0) w3 f4 rfl rfl rfl
  rw [← e4] at h4
  refine q_list h4 (r := 4) rfl rfl rfl (fun T4 g4 => ⟨pre_is g4 (r := 0) rfl rfl e0, fun U4 d4 => ?_⟩)
  have w4 := pre_FR (i := 451) (r := 0) (r' := 4) (v := a4) g4 rfl rfl (by decide) e0 rfl
  rw [← d4] at w4
  intro a5 S5 f5 e5 U5 d5
  have h5 := pre_new (r0 := 5) (k := 21) (n := 14) w4 f5 rfl rfl rfl
  rw [← e5] at h5
  have w5 := pre_FR (i := 452) (r := 0) (r' := 5) (v := a5) h5 rfl rfl (by decide) e0 rfl
  rw [← d5] at w5
  intro a6 S6 f6 e6 U6 d6
  have h6 := pre_new (r0 := 6) (k := 21) (n := 14) w5 f6 rfl rfl rfl
  rw [← e6] at h6
  have w6 := pre_FR (i := 453) (r := 0) (r' := 6) (v := a6) h6 rfl rfl (by decide) e0 rfl
  rw [← d6] at w6
  intro a7 S7 f7 e7 U7 d7
  have h7 := pre_new (r0 := 7) (k := 23) (n := 14) w6 f7 rfl rfl rfl
  rw [← e7] at h7
  have w7 := pre_FR (i := 454) (r := 0) (r' := 7) (v := a7) h7 rfl rfl (by decide) e0 rfl
  rw [← d7] at w7
  intro a8 S8 f8 e8 U8 d8
  have h8 := pre_new (r0 := 8) (k := 23) (n := 14) w7 f8 rfl rfl rfl
  rw [← e8] at h8
  have w8 := pre_FR (i := 455) (r := 0) (r' := 8) (v := a8) h8 rfl rfl (by decide) e0 rfl
  rw [← d8] at w8
  intro a9 S9 f9 e9
  have h9 := pre_new (r0 := 9) (k := 4) (n := 0) w8 f9 rfl rfl rfl
  rw [← e9] at h9
  refine q_row (r := 9) (u := 30) (v := 31) (n := 14) h9 rfl rfl rfl rfl rfl rfl rfl rfl rfl rfl (by decide) (fun T9 a30 a31 g9 => ⟨pre_is g9 (r := 0) rfl rfl e0, fun U9 d9 => ?_⟩)
  have w9 := pre_FR (i := 456) (r := 0) (r' := 9) (v := a9) g9 rfl rfl (by decide) e0 rfl
  rw [← d9] at w9
  intro a10 S10 f10 e10
  have h10 := pre_new (r0 := 10) (k := 4) (n := 0) w9 f10 rfl rfl rfl
  rw [← e10] at h10
  refine q_row (r := 10) (u := 32) (v := 33) (n := 16) h10 rfl rfl rfl rfl rfl rfl rfl rfl rfl rfl (by decide) (fun T10 a32 a33 g10 => ⟨pre_is g10 (r := 0) rfl rfl e0, fun U10 d10 => ?_⟩)
  have w10 := pre_FR (i := 457) (r := 0) (r' := 10) (v := a10) g10 rfl rfl (by decide) e0 rfl
  rw [← d10] at w10
  intro a20 S20 f20 e20
  have h20 := pre_new (r0 := 20) (k := 6) (n := 0) w10 f20 rfl rfl rfl
  rw [← e20] at h20
  refine q_mot0 h20 rfl rfl (by decide) (fun T20 a11 a34 a35 a12 a36 a37 a13 a38 a39 a60 a63 g20 => ⟨pre_is g20 (r := 0) rfl rfl e0, fun U20 d20 => ?_⟩)
  have w20 := pre_FR (i := 458) (r := 0) (r' := 20) (v := a20) g20 rfl rfl (by decide) e0 rfl
  rw [← d20] at w20
  intro a21 S21 f21 e21
  have h21 := pre_new (r0 := 21) (k := 6) (n := 0) w20 f21 rfl rfl rfl
  rw [← e21] at h21
  refine q_mot1 h21 rfl rfl (by decide) (fun T21 a14 a40 a41 a15 a42 a43 a16 a44 a45 a61 a64 g21 => ⟨pre_is g21 (r := 0) rfl rfl e0, fun U21 d21 => ?_⟩)
  have w21 := pre_FR (i := 459) (r := 0) (r' := 21) (v := a21) g21 rfl rfl (by decide) e0 rfl
  rw [← d21] at w21
  intro a22 S22 f22 e22
  have h22 := pre_new (r0 := 22) (k := 6) (n := 0) w21 f22 rfl rfl rfl
  rw [← e22] at h22
  refine q_mot2 h22 rfl rfl (by decide) (fun T22 a17 a46 a47 a18 a48 a49 a19 a50 a51 a62 a65 g22 => ⟨pre_is g22 (r := 0) rfl rfl e0, fun U22 d22 => ?_⟩)
  have w22 := pre_FR (i := 460) (r := 0) (r' := 22) (v := a22) g22 rfl rfl (by decide) e0 rfl
  rw [← d22] at w22
  intro S90 e90
  have h90 := pre_FI (i := 462) (r := 0) (v := -1) w22 rfl (by decide) e0
  rw [← e90] at h90
  exact ⟨a5, pre_getFR (i := 452) (r := 0) (r' := 5) h90 rfl e0 rfl, q_fillI (r := 5) (n := 14) h90 rfl rfl rfl (by decide) rfl (fun S' h' => k S' _ h' e0)⟩
end IN9
