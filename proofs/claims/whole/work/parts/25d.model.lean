/-! THE CONSTRUCTORS: the reference -/
set_option maxRecDepth 100000
section IM9
variable {F R : Nat → Nat → Option Nat} {X : Nat → Bool} {A : Nat → Nat} {S : Hp} {D : Dt}
def b8 : Nat → Bool := (bu (bus (bu (bus (bus (bu (bu (bus (bu (bus (bu (bus (bu (bus (bu (bu (bu (bu (bu (bu (bu (bu (bu (bu (bu (bu (bu (bu (bu (bu (bu (bu (bu (bu (bu (bu (bu (bu (bu b7 70) 72) 73) 74) 75) 76) 77) 78) 79) 80) 81) 82) 83) 84) 85) 86) 87) 88) 89) 90) 91) 92) 93) 94) 95) 200 8) 96) 210 8) 97) 220 8) 98) 230 8) 99) 100) 300 96) 250 4) 101) 240 4) 102)
def F8 : Nat → Nat → Option Nat := (fu (fu (fu (fu (fu (fu (fu (fu (fu (fu (fu (fu (fu (fu (fu (fu (fu (fu (fu (fu (fu (fu (fu (fu (fu (fu (fu (fu (fu (fu (fu F7 512 70 72) 513 70 73) 514 70 74) 515 70 75) 516 70 76) 517 70 77) 518 70 78) 519 70 79) 520 70 80) 521 70 81) 522 70 82) 523 70 83) 524 70 84) 525 70 85) 526 70 86) 527 70 87) 528 70 88) 529 70 89) 530 70 90) 531 70 91) 532 70 92) 533 70 93) 534 70 94) 535 70 95) 536 70 96) 537 70 97) 538 70 98) 539 70 99) 540 70 100) 541 70 101) 542 70 102)
def R8 : Nat → Nat → Option Nat := (ru (ru (ru (ru (ru (ru (ru (ru (ru (ru (fun _ _ => none) 96 200 8) 97 210 8) 98 220 8) 99 230 8) 250 300 24) 251 324 24) 252 348 24) 253 372 24) 101 250 4) 102 240 4)
theorem q_init8 {Φ : Hp → Prop} {x0 z0 : Nat} (h : Pre (bu b7 70) F7 (fun _ _ => none) X7 A S D) (e0 : A 70 = x0) (e1 : A 0 = z0) (k : ∀ S' A', Pre b8 F8 R8 X7 A' S' (D.setFJ 548 70 1) → A' 70 = x0 → A' 0 = z0 → Φ S') : wX8_init S x0 Φ := by
  unfold wX8_init wX8_init_b0
  intro a72 S72 f72 s72
  have h72 := pre_new (r0 := 72) (k := 22) (n := 14) h f72 rfl rfl rfl
  rw [← s72] at h72
  refine ⟨pre_is h72 (r := 70) rfl rfl e0, fun U72 d72 => ?_⟩
  have w72 := pre_FR (i := 512) (r := 70) (r' := 72) (v := a72) h72 rfl rfl (by decide) e0 rfl
  rw [← d72] at w72
  intro a73 S73 f73 s73 U73 d73
  have h73 := pre_new (r0 := 73) (k := 22) (n := 14) w72 f73 rfl rfl rfl
  rw [← s73] at h73
  have w73 := pre_FR (i := 513) (r := 70) (r' := 73) (v := a73) h73 rfl rfl (by decide) e0 rfl
  rw [← d73] at w73
  intro a74 S74 f74 s74 U74 d74
  have h74 := pre_new (r0 := 74) (k := 22) (n := 14) w73 f74 rfl rfl rfl
  rw [← s74] at h74
  have w74 := pre_FR (i := 514) (r := 70) (r' := 74) (v := a74) h74 rfl rfl (by decide) e0 rfl
  rw [← d74] at w74
  intro a75 S75 f75 s75 U75 d75
  have h75 := pre_new (r0 := 75) (k := 22) (n := 14) w74 f75 rfl rfl rfl
  rw [← s75] at h75
  have w75 := pre_FR (i := 515) (r := 70) (r' := 75) (v := a75) h75 rfl rfl (by decide) e0 rfl
  rw [← d75] at w75
  intro a76 S76 f76 s76 U76 d76
  have h76 := pre_new (r0 := 76) (k := 22) (n := 14) w75 f76 rfl rfl rfl
  rw [← s76] at h76
  have w76 := pre_FR (i := 516) (r := 70) (r' := 76) (v := a76) h76 rfl rfl (by decide) e0 rfl
  rw [← d76] at w76
  intro a77 S77 f77 s77 U77 d77
  have h77 := pre_new (r0 := 77) (k := 22) (n := 14) w76 f77 rfl rfl rfl
  rw [← s77] at h77
  have w77 := pre_FR (i := 517) (r := 70) (r' := 77) (v := a77) h77 rfl rfl (by decide) e0 rfl
  rw [← d77] at w77
  intro a78 S78 f78 s78 U78 d78
  have h78 := pre_new (r0 := 78) (k := 23) (n := 14) w77 f78 rfl rfl rfl
  rw [← s78] at h78
  have w78 := pre_FR (i := 518) (r := 70) (r' := 78) (v := a78) h78 rfl rfl (by decide) e0 rfl
  rw [← d78] at w78
  intro a79 S79 f79 s79 U79 d79
  have h79 := pre_new (r0 := 79) (k := 21) (n := 14) w78 f79 rfl rfl rfl
  rw [← s79] at h79
  have w79 := pre_FR (i := 519) (r := 70) (r' := 79) (v := a79) h79 rfl rfl (by decide) e0 rfl
  rw [← d79] at w79
  intro a80 S80 f80 s80 U80 d80
  have h80 := pre_new (r0 := 80) (k := 21) (n := 14) w79 f80 rfl rfl rfl
  rw [← s80] at h80
  have w80 := pre_FR (i := 520) (r := 70) (r' := 80) (v := a80) h80 rfl rfl (by decide) e0 rfl
  rw [← d80] at w80
  intro a81 S81 f81 s81 U81 d81
  have h81 := pre_new (r0 := 81) (k := 20) (n := 16) w80 f81 rfl rfl rfl
  rw [← s81] at h81
  have w81 := pre_FR (i := 521) (r := 70) (r' := 81) (v := a81) h81 rfl rfl (by decide) e0 rfl
  rw [← d81] at w81
  intro a82 S82 f82 s82 U82 d82
  have h82 := pre_new (r0 := 82) (k := 21) (n := 16) w81 f82 rfl rfl rfl
  rw [← s82] at h82
  have w82 := pre_FR (i := 522) (r := 70) (r' := 82) (v := a82) h82 rfl rfl (by decide) e0 rfl
  rw [← d82] at w82
  intro a83 S83 f83 s83 U83 d83
  have h83 := pre_new (r0 := 83) (k := 21) (n := 16) w82 f83 rfl rfl rfl
  rw [← s83] at h83
  have w83 := pre_FR (i := 523) (r := 70) (r' := 83) (v := a83) h83 rfl rfl (by decide) e0 rfl
  rw [← d83] at w83
  intro a84 S84 f84 s84 U84 d84
  have h84 := pre_new (r0 := 84) (k := 21) (n := 16) w83 f84 rfl rfl rfl
  rw [← s84] at h84
  have w84 := pre_FR (i := 524) (r := 70) (r' := 84) (v := a84) h84 rfl rfl (by decide) e0 rfl
  rw [← d84] at w84
  intro a85 S85 f85 s85 U85 d85
  have h85 := pre_new (r0 := 85) (k := 21) (n := 16) w84 f85 rfl rfl rfl
  rw [← s85] at h85
  have w85 := pre_FR (i := 525) (r := 70) (r' := 85) (v := a85) h85 rfl rfl (by decide) e0 rfl
  rw [← d85] at w85
  intro a86 S86 f86 s86 U86 d86
  have h86 := pre_new (r0 := 86) (k := 21) (n := 16) w85 f86 rfl rfl rfl
  rw [← s86] at h86
  have w86 := pre_FR (i := 526) (r := 70) (r' := 86) (v := a86) h86 rfl rfl (by decide) e0 rfl
  rw [← d86] at w86
  intro a87 S87 f87 s87 U87 d87
  have h87 := pre_new (r0 := 87) (k := 23) (n := 16) w86 f87 rfl rfl rfl
  rw [← s87] at h87
  have w87 := pre_FR (i := 527) (r := 70) (r' := 87) (v := a87) h87 rfl rfl (by decide) e0 rfl
  rw [← d87] at w87
  intro a88 S88 f88 s88 U88 d88
  have h88 := pre_new (r0 := 88) (k := 23) (n := 16) w87 f88 rfl rfl rfl
  rw [← s88] at h88
  have w88 := pre_FR (i := 528) (r := 70) (r' := 88) (v := a88) h88 rfl rfl (by decide) e0 rfl
  rw [← d88] at w88
  intro a89 S89 f89 s89 U89 d89
  have h89 := pre_new (r0 := 89) (k := 21) (n := 16) w88 f89 rfl rfl rfl
  rw [← s89] at h89
  have w89 := pre_FR (i := 529) (r := 70) (r' := 89) (v := a89) h89 rfl rfl (by decide) e0 rfl
  rw [← d89] at w89
  intro a90 S90 f90 s90 U90 d90
  have h90 := pre_new (r0 := 90) (k := 21) (n := 16) w89 f90 rfl rfl rfl
  rw [← s90] at h90
  have w90 := pre_FR (i := 530) (r := 70) (r' := 90) (v := a90) h90 rfl rfl (by decide) e0 rfl
  rw [← d90] at w90
  intro a91 S91 f91 s91 U91 d91
  have h91 := pre_new (r0 := 91) (k := 22) (n := 16) w90 f91 rfl rfl rfl
  rw [← s91] at h91
  have w91 := pre_FR (i := 531) (r := 70) (r' := 91) (v := a91) h91 rfl rfl (by decide) e0 rfl
  rw [← d91] at w91
  intro a92 S92 f92 s92 U92 d92
  have h92 := pre_new (r0 := 92) (k := 22) (n := 16) w91 f92 rfl rfl rfl
  rw [← s92] at h92
  have w92 := pre_FR (i := 532) (r := 70) (r' := 92) (v := a92) h92 rfl rfl (by decide) e0 rfl
  rw [← d92] at w92
  intro a93 S93 f93 s93 U93 d93
  have h93 := pre_new (r0 := 93) (k := 22) (n := 16) w92 f93 rfl rfl rfl
  rw [← s93] at h93
  have w93 := pre_FR (i := 533) (r := 70) (r' := 93) (v := a93) h93 rfl rfl (by decide) e0 rfl
  rw [← d93] at w93
  intro a94 S94 f94 s94 U94 d94
  have h94 := pre_new (r0 := 94) (k := 21) (n := 8) w93 f94 rfl rfl rfl
  rw [← s94] at h94
  have w94 := pre_FR (i := 534) (r := 70) (r' := 94) (v := a94) h94 rfl rfl (by decide) e0 rfl
  rw [← d94] at w94
  intro a95 S95 f95 s95 U95 d95
  have h95 := pre_new (r0 := 95) (k := 21) (n := 8) w94 f95 rfl rfl rfl
  rw [← s95] at h95
  have w95 := pre_FR (i := 535) (r := 70) (r' := 95) (v := a95) h95 rfl rfl (by decide) e0 rfl
  rw [← d95] at w95
  intro a96 f96 S96 q96 s96 U96 d96
  have h96 := q_mk2 (lo := 200) (r0 := 96) (ko := 26) (ke := 21) (n := 8) (k := 24) w95 q96 (by decide +kernel) rfl rfl rfl
  rw [← s96] at h96
  have w96 := pre_FR (i := 536) (r := 70) (r' := 96) (v := a96) h96 rfl rfl (by decide) e0 rfl
  rw [← d96] at w96
  intro a97 f97 S97 q97 s97 U97 d97
  have h97 := q_mk2 (lo := 210) (r0 := 97) (ko := 26) (ke := 21) (n := 8) (k := 24) w96 q97 (by decide +kernel) rfl rfl rfl
  rw [← s97] at h97
  have w97 := pre_FR (i := 537) (r := 70) (r' := 97) (v := a97) h97 rfl rfl (by decide) e0 rfl
  rw [← d97] at w97
  intro a98 f98 S98 q98 s98 U98 d98
  have h98 := q_mk2 (lo := 220) (r0 := 98) (ko := 27) (ke := 20) (n := 8) (k := 24) w97 q98 (by decide +kernel) rfl rfl rfl
  rw [← s98] at h98
  have w98 := pre_FR (i := 538) (r := 70) (r' := 98) (v := a98) h98 rfl rfl (by decide) e0 rfl
  rw [← d98] at w98
  intro a99 f99 S99 q99 s99 U99 d99
  have h99 := q_mk2 (lo := 230) (r0 := 99) (ko := 26) (ke := 21) (n := 8) (k := 24) w98 q99 (by decide +kernel) rfl rfl rfl
  rw [← s99] at h99
  have w99 := pre_FR (i := 539) (r := 70) (r' := 99) (v := a99) h99 rfl rfl (by decide) e0 rfl
  rw [← d99] at w99
  intro a100 S100 f100 s100 U100 d100
  have h100 := pre_new (r0 := 100) (k := 21) (n := 4) w99 f100 rfl rfl rfl
  rw [← s100] at h100
  have w100 := pre_FR (i := 540) (r := 70) (r' := 100) (v := a100) h100 rfl rfl (by decide) e0 rfl
  rw [← d100] at w100
  intro a101 p101 f101 S101 q101 s101 U101 d101
  have h101 := q_mk3 w100 q101 (by decide +kernel) (by decide +kernel) rfl
  rw [← s101] at h101
  have w101 := pre_FR (i := 541) (r := 70) (r' := 101) (v := a101) h101 rfl rfl (by decide) e0 rfl
  rw [← d101] at w101
  intro a102 f102 S102 q102 s102 U102 d102
  have h102 := q_mk2 (lo := 240) (r0 := 102) (ko := 26) (ke := 21) (n := 4) (k := 8) w101 q102 (by decide +kernel) rfl rfl rfl
  rw [← s102] at h102
  have w102 := pre_FR (i := 542) (r := 70) (r' := 102) (v := a102) h102 rfl rfl (by decide) e0 rfl
  rw [← d102] at w102
  intro S90 e90
  have h90 := pre_FJ (i := 548) (r := 70) (v := 1) w102 rfl e0
  rw [← e90] at h90
  exact k S90 _ h90 e0 e1
end IM9
