def rm_X8_init : Room := { frames := 1, cells := 167, slots := 2058, locals := 12 }
def wX8_init_b0 (x0 : Nat) (Φ : Hp → Prop) (S : Hp) : Prop := ∀ a1 S2, a1 ∉ S.L → S2 = S.new a1 22 14 → isA S2 x0 8 ∧ ∀ S4, S4 = S2.setFR 512 x0 (some a1) → ∀ a5 S6, a5 ∉ S4.L → S6 = S4.new a5 22 14 → ∀ S7, S7 = S6.setFR 513 x0 (some a5) → ∀ a8 S9, a8 ∉ S7.L → S9 = S7.new a8 22 14 → ∀ S10, S10 = S9.setFR 514 x0 (some a8) → ∀ a11 S12, a11 ∉ S10.L → S12 = S10.new a11 22 14 → ∀ S13, S13 = S12.setFR 515 x0 (some a11) → ∀ a14 S15, a14 ∉ S13.L → S15 = S13.new a14 22 14 → ∀ S16, S16 = S15.setFR 516 x0 (some a14) → ∀ a17 S18, a17 ∉ S16.L → S18 = S16.new a17 22 14 → ∀ S19, S19 = S18.setFR 517 x0 (some a17) → ∀ a20 S21, a20 ∉ S19.L → S21 = S19.new a20 23 14 → ∀ S22, S22 = S21.setFR 518 x0 (some a20) → ∀ a23 S24, a23 ∉ S22.L → S24 = S22.new a23 21 14 → ∀ S25, S25 = S24.setFR 519 x0 (some a23) → ∀ a26 S27, a26 ∉ S25.L → S27 = S25.new a26 21 14 → ∀ S28, S28 = S27.setFR 520 x0 (some a26) → ∀ a29 S30, a29 ∉ S28.L → S30 = S28.new a29 20 16 → ∀ S31, S31 = S30.setFR 521 x0 (some a29) → ∀ a32 S33, a32 ∉ S31.L → S33 = S31.new a32 21 16 → ∀ S34, S34 = S33.setFR 522 x0 (some a32) → ∀ a35 S36, a35 ∉ S34.L → S36 = S34.new a35 21 16 → ∀ S37, S37 = S36.setFR 523 x0 (some a35) → ∀ a38 S39, a38 ∉ S37.L → S39 = S37.new a38 21 16 → ∀ S40, S40 = S39.setFR 524 x0 (some a38) → ∀ a41 S42, a41 ∉ S40.L → S42 = S40.new a41 21 16 → ∀ S43, S43 = S42.setFR 525 x0 (some a41) → ∀ a44 S45, a44 ∉ S43.L → S45 = S43.new a44 21 16 → ∀ S46, S46 = S45.setFR 526 x0 (some a44) → ∀ a47 S48, a47 ∉ S46.L → S48 = S46.new a47 23 16 → ∀ S49, S49 = S48.setFR 527 x0 (some a47) → ∀ a50 S51, a50 ∉ S49.L → S51 = S49.new a50 23 16 → ∀ S52, S52 = S51.setFR 528 x0 (some a50) → ∀ a53 S54, a53 ∉ S52.L → S54 = S52.new a53 21 16 → ∀ S55, S55 = S54.setFR 529 x0 (some a53) → ∀ a56 S57, a56 ∉ S55.L → S57 = S55.new a56 21 16 → ∀ S58, S58 = S57.setFR 530 x0 (some a56) → ∀ a59 S60, a59 ∉ S58.L → S60 = S58.new a59 22 16 → ∀ S61, S61 = S60.setFR 531 x0 (some a59) → ∀ a62 S63, a62 ∉ S61.L → S63 = S61.new a62 22 16 → ∀ S64, S64 = S63.setFR 532 x0 (some a62) → ∀ a65 S66, a65 ∉ S64.L → S66 = S64.new a65 22 16 → ∀ S67, S67 = S66.setFR 533 x0 (some a65) → ∀ a68 S69, a68 ∉ S67.L → S69 = S67.new a68 21 8 → ∀ S70, S70 = S69.setFR 534 x0 (some a68) → ∀ a71 S72, a71 ∉ S70.L → S72 = S70.new a71 21 8 → ∀ S73, S73 = S72.setFR 535 x0 (some a71) → ∀ a74 ra74 S75, fr2 S73 a74 ra74 8 → S75 = mk2 S73 a74 ra74 26 21 8 24 → ∀ S76, S76 = S75.setFR 536 x0 (some a74) → ∀ a77 ra77 S78, fr2 S76 a77 ra77 8 → S78 = mk2 S76 a77 ra77 26 21 8 24 → ∀ S79, S79 = S78.setFR 537 x0 (some a77) → ∀ a80 ra80 S81, fr2 S79 a80 ra80 8 → S81 = mk2 S79 a80 ra80 27 20 8 24 → ∀ S82, S82 = S81.setFR 538 x0 (some a80) → ∀ a83 ra83 S84, fr2 S82 a83 ra83 8 → S84 = mk2 S82 a83 ra83 26 21 8 24 → ∀ S85, S85 = S84.setFR 539 x0 (some a83) → ∀ a86 S87, a86 ∉ S85.L → S87 = S85.new a86 21 4 → ∀ S88, S88 = S87.setFR 540 x0 (some a86) → ∀ a89 qa89 ra89 S90, fr3 S88 a89 qa89 ra89 4 24 → S90 = mk3 S88 a89 qa89 ra89 4 24 8 → ∀ S91, S91 = S90.setFR 541 x0 (some a89) → ∀ a92 ra92 S93, fr2 S91 a92 ra92 4 → S93 = mk2 S91 a92 ra92 26 21 4 8 → ∀ S94, S94 = S93.setFR 542 x0 (some a92) → ∀ S95, S95 = S94.setFJ 548 x0 1 → Φ S95
set_option maxHeartbeats 4000000 in
set_option maxRecDepth 100000 in
theorem bX8_init_b0 {p : Program} {l : Launch} {e : Env} {s : State} {m : MethodId} {args : Array Value} {below : List Frame} {meth : Method} {c : Code} {G : Gw} {x0 : Nat} {Φ : Hp → Prop} (C0 : Mx p s m c cX8_init 1 args yX8_init.cls G) (Y : My meth none) (hin9 : meth.name = "<init>")  : ∀ (S : Hp) (H : Heap) (locs : List Loc) (ls : Array Slot) (cells slots : Nat), wX8_init_b0 x0 Φ S → Ok G S H → va_S (Ab G.b) s.heap H locs → lv_has ls 1 [(0, .ref x0)] → cells + (167) ≤ 167 → slots + (2058) ≤ 2058 → W p l e rm_X8_init s m args below meth c H locs cells slots (MQ below (gQ G (PV Φ)) args s rm_X8_init.cells rm_X8_init.slots (Ab G.b)) (F0 m 0 ls []) := by
  intro S H locs ls cells slots h hO hS hl hcc hss
  unfold wX8_init_b0 at h
  refine lv_aload_n C0.1 C0.2.1 dX8_init_0 rfl (lv_at hl 0 rfl) ?_
  refine W.objInit C0.1 C0.2.1 C0.2.2.2.1 (C0.2.2.2.2.1 _ tb_1320) (C0.2.2.2.2.1 _ tb_109) (C0.2.2.2.2.1 _ tb_110) rfl (hl.1.trans C0.2.2.1.symm) rfl dX8_init_1 (Nat.le_of_ble_eq_true rfl) (Nat.le_of_ble_eq_true rfl) ?_
  refine W.eq (g2 := F0 _ 4 _ _) rfl ?_
  refine lv_aload_n C0.1 C0.2.1 dX8_init_4 rfl (lv_at hl 0 rfl) ?_
  refine lv_bipush (v := 14) C0.1 C0.2.1 dX8_init_5 (by decide) ?_
  refine n_22k (k := 14) C0 hO hS (by decide) (by show _ ≤ 167; omega) (by show _ ≤ 2058; omega) dX8_init_7 (fun a1 H hna1 hO hS => ?_)
  have h := h a1 _ hna1 rfl
  obtain ⟨i3, h⟩ := h
  refine p8_0 C0 hO hS i3 hin9 rfl tb_1328 dX8_init_9 (fun H locs hO hS => ?_)
  have h := h _ rfl
  refine lv_aload_n C0.1 C0.2.1 dX8_init_12 rfl (lv_at hl 0 rfl) ?_
  refine lv_bipush (v := 14) C0.1 C0.2.1 dX8_init_13 (by decide) ?_
  refine n_22k (k := 14) C0 hO hS (by decide) (by show _ ≤ 167; omega) (by show _ ≤ 2058; omega) dX8_init_15 (fun a5 H hna5 hO hS => ?_)
  have h := h a5 _ hna5 rfl
  refine p8_1 C0 hO hS (new_old (n := 14) hna5 (sA_FR i3)) hin9 rfl tb_1329 dX8_init_17 (fun H locs hO hS => ?_)
  have h := h _ rfl
  refine lv_aload_n C0.1 C0.2.1 dX8_init_20 rfl (lv_at hl 0 rfl) ?_
  refine lv_bipush (v := 14) C0.1 C0.2.1 dX8_init_21 (by decide) ?_
  refine n_22k (k := 14) C0 hO hS (by decide) (by show _ ≤ 167; omega) (by show _ ≤ 2058; omega) dX8_init_23 (fun a8 H hna8 hO hS => ?_)
  have h := h a8 _ hna8 rfl
  refine p8_2 C0 hO hS (new_old (n := 14) hna8 (sA_FR (new_old (n := 14) hna5 (sA_FR i3)))) hin9 rfl tb_1330 dX8_init_25 (fun H locs hO hS => ?_)
  have h := h _ rfl
  refine lv_aload_n C0.1 C0.2.1 dX8_init_28 rfl (lv_at hl 0 rfl) ?_
  refine lv_bipush (v := 14) C0.1 C0.2.1 dX8_init_29 (by decide) ?_
  refine n_22k (k := 14) C0 hO hS (by decide) (by show _ ≤ 167; omega) (by show _ ≤ 2058; omega) dX8_init_31 (fun a11 H hna11 hO hS => ?_)
  have h := h a11 _ hna11 rfl
  refine p8_3 C0 hO hS (new_old (n := 14) hna11 (sA_FR (new_old (n := 14) hna8 (sA_FR (new_old (n := 14) hna5 (sA_FR i3)))))) hin9 rfl tb_1331 dX8_init_33 (fun H locs hO hS => ?_)
  have h := h _ rfl
  refine lv_aload_n C0.1 C0.2.1 dX8_init_36 rfl (lv_at hl 0 rfl) ?_
  refine lv_bipush (v := 14) C0.1 C0.2.1 dX8_init_37 (by decide) ?_
  refine n_22k (k := 14) C0 hO hS (by decide) (by show _ ≤ 167; omega) (by show _ ≤ 2058; omega) dX8_init_39 (fun a14 H hna14 hO hS => ?_)
  have h := h a14 _ hna14 rfl
  refine p8_4 C0 hO hS (new_old (n := 14) hna14 (sA_FR (new_old (n := 14) hna11 (sA_FR (new_old (n := 14) hna8 (sA_FR (new_old (n := 14) hna5 (sA_FR i3)))))))) hin9 rfl tb_1332 dX8_init_41 (fun H locs hO hS => ?_)
  have h := h _ rfl
  refine lv_aload_n C0.1 C0.2.1 dX8_init_44 rfl (lv_at hl 0 rfl) ?_
  refine lv_bipush (v := 14) C0.1 C0.2.1 dX8_init_45 (by decide) ?_
  refine n_22k (k := 14) C0 hO hS (by decide) (by show _ ≤ 167; omega) (by show _ ≤ 2058; omega) dX8_init_47 (fun a17 H hna17 hO hS => ?_)
  have h := h a17 _ hna17 rfl
  refine p8_5 C0 hO hS (new_old (n := 14) hna17 (sA_FR (new_old (n := 14) hna14 (sA_FR (new_old (n := 14) hna11 (sA_FR (new_old (n := 14) hna8 (sA_FR (new_old (n := 14) hna5 (sA_FR i3)))))))))) hin9 rfl tb_1333 dX8_init_49 (fun H locs hO hS => ?_)
  have h := h _ rfl
  refine lv_aload_n C0.1 C0.2.1 dX8_init_52 rfl (lv_at hl 0 rfl) ?_
  refine lv_bipush (v := 14) C0.1 C0.2.1 dX8_init_53 (by decide) ?_
  refine n_23k (k := 14) C0 hO hS (by decide) (by show _ ≤ 167; omega) (by show _ ≤ 2058; omega) dX8_init_55 (fun a20 H hna20 hO hS => ?_)
  have h := h a20 _ hna20 rfl
  refine p8_6 C0 hO hS (new_old (n := 14) hna20 (sA_FR (new_old (n := 14) hna17 (sA_FR (new_old (n := 14) hna14 (sA_FR (new_old (n := 14) hna11 (sA_FR (new_old (n := 14) hna8 (sA_FR (new_old (n := 14) hna5 (sA_FR i3)))))))))))) hin9 rfl tb_1334 dX8_init_57 (fun H locs hO hS => ?_)
  have h := h _ rfl
  refine lv_aload_n C0.1 C0.2.1 dX8_init_60 rfl (lv_at hl 0 rfl) ?_
  refine lv_bipush (v := 14) C0.1 C0.2.1 dX8_init_61 (by decide) ?_
  refine n_21k (k := 14) C0 hO hS (by decide) (by show _ ≤ 167; omega) (by show _ ≤ 2058; omega) dX8_init_63 (fun a23 H hna23 hO hS => ?_)
  have h := h a23 _ hna23 rfl
  refine p8_7 C0 hO hS (new_old (n := 14) hna23 (sA_FR (new_old (n := 14) hna20 (sA_FR (new_old (n := 14) hna17 (sA_FR (new_old (n := 14) hna14 (sA_FR (new_old (n := 14) hna11 (sA_FR (new_old (n := 14) hna8 (sA_FR (new_old (n := 14) hna5 (sA_FR i3)))))))))))))) hin9 rfl tb_1335 dX8_init_65 (fun H locs hO hS => ?_)
  have h := h _ rfl
  refine lv_aload_n C0.1 C0.2.1 dX8_init_68 rfl (lv_at hl 0 rfl) ?_
  refine lv_bipush (v := 14) C0.1 C0.2.1 dX8_init_69 (by decide) ?_
  refine n_21k (k := 14) C0 hO hS (by decide) (by show _ ≤ 167; omega) (by show _ ≤ 2058; omega) dX8_init_71 (fun a26 H hna26 hO hS => ?_)
  have h := h a26 _ hna26 rfl
  refine p8_8 C0 hO hS (new_old (n := 14) hna26 (sA_FR (new_old (n := 14) hna23 (sA_FR (new_old (n := 14) hna20 (sA_FR (new_old (n := 14) hna17 (sA_FR (new_old (n := 14) hna14 (sA_FR (new_old (n := 14) hna11 (sA_FR (new_old (n := 14) hna8 (sA_FR (new_old (n := 14) hna5 (sA_FR i3)))))))))))))))) hin9 rfl tb_1336 dX8_init_73 (fun H locs hO hS => ?_)
  have h := h _ rfl
  refine lv_aload_n C0.1 C0.2.1 dX8_init_76 rfl (lv_at hl 0 rfl) ?_
  refine lv_bipush (v := 16) C0.1 C0.2.1 dX8_init_77 (by decide) ?_
  refine n_20k (k := 16) C0 hO hS (by decide) (by show _ ≤ 167; omega) (by show _ ≤ 2058; omega) dX8_init_79 (fun a29 H hna29 hO hS => ?_)
  have h := h a29 _ hna29 rfl
  refine p8_9 C0 hO hS (new_old (n := 16) hna29 (sA_FR (new_old (n := 14) hna26 (sA_FR (new_old (n := 14) hna23 (sA_FR (new_old (n := 14) hna20 (sA_FR (new_old (n := 14) hna17 (sA_FR (new_old (n := 14) hna14 (sA_FR (new_old (n := 14) hna11 (sA_FR (new_old (n := 14) hna8 (sA_FR (new_old (n := 14) hna5 (sA_FR i3)))))))))))))))))) hin9 rfl tb_1337 dX8_init_81 (fun H locs hO hS => ?_)
  have h := h _ rfl
  refine lv_aload_n C0.1 C0.2.1 dX8_init_84 rfl (lv_at hl 0 rfl) ?_
  refine lv_bipush (v := 16) C0.1 C0.2.1 dX8_init_85 (by decide) ?_
  refine n_21k (k := 16) C0 hO hS (by decide) (by show _ ≤ 167; omega) (by show _ ≤ 2058; omega) dX8_init_87 (fun a32 H hna32 hO hS => ?_)
  have h := h a32 _ hna32 rfl
  refine p8_10 C0 hO hS (new_old (n := 16) hna32 (sA_FR (new_old (n := 16) hna29 (sA_FR (new_old (n := 14) hna26 (sA_FR (new_old (n := 14) hna23 (sA_FR (new_old (n := 14) hna20 (sA_FR (new_old (n := 14) hna17 (sA_FR (new_old (n := 14) hna14 (sA_FR (new_old (n := 14) hna11 (sA_FR (new_old (n := 14) hna8 (sA_FR (new_old (n := 14) hna5 (sA_FR i3)))))))))))))))))))) hin9 rfl tb_1338 dX8_init_89 (fun H locs hO hS => ?_)
  have h := h _ rfl
  refine lv_aload_n C0.1 C0.2.1 dX8_init_92 rfl (lv_at hl 0 rfl) ?_
  refine lv_bipush (v := 16) C0.1 C0.2.1 dX8_init_93 (by decide) ?_
  refine n_21k (k := 16) C0 hO hS (by decide) (by show _ ≤ 167; omega) (by show _ ≤ 2058; omega) dX8_init_95 (fun a35 H hna35 hO hS => ?_)
  have h := h a35 _ hna35 rfl
  refine p8_11 C0 hO hS (new_old (n := 16) hna35 (sA_FR (new_old (n := 16) hna32 (sA_FR (new_old (n := 16) hna29 (sA_FR (new_old (n := 14) hna26 (sA_FR (new_old (n := 14) hna23 (sA_FR (new_old (n := 14) hna20 (sA_FR (new_old (n := 14) hna17 (sA_FR (new_old (n := 14) hna14 (sA_FR (new_old (n := 14) hna11 (sA_FR (new_old (n := 14) hna8 (sA_FR (new_old (n := 14) hna5 (sA_FR i3)))))))))))))))))))))) hin9 rfl tb_1339 dX8_init_97 (fun H locs hO hS => ?_)
  have h := h _ rfl
  refine lv_aload_n C0.1 C0.2.1 dX8_init_100 rfl (lv_at hl 0 rfl) ?_
  refine lv_bipush (v := 16) C0.1 C0.2.1 dX8_init_101 (by decide) ?_
  refine n_21k (k := 16) C0 hO hS (by decide) (by show _ ≤ 167; omega) (by show _ ≤ 2058; omega) dX8_init_103 (fun a38 H hna38 hO hS => ?_)
  have h := h a38 _ hna38 rfl
  refine p8_12 C0 hO hS (new_old (n := 16) hna38 (sA_FR (new_old (n := 16) hna35 (sA_FR (new_old (n := 16) hna32 (sA_FR (new_old (n := 16) hna29 (sA_FR (new_old (n := 14) hna26 (sA_FR (new_old (n := 14) hna23 (sA_FR (new_old (n := 14) hna20 (sA_FR (new_old (n := 14) hna17 (sA_FR (new_old (n := 14) hna14 (sA_FR (new_old (n := 14) hna11 (sA_FR (new_old (n := 14) hna8 (sA_FR (new_old (n := 14) hna5 (sA_FR i3)))))))))))))))))))))))) hin9 rfl tb_1340 dX8_init_105 (fun H locs hO hS => ?_)
  have h := h _ rfl
  refine lv_aload_n C0.1 C0.2.1 dX8_init_108 rfl (lv_at hl 0 rfl) ?_
  refine lv_bipush (v := 16) C0.1 C0.2.1 dX8_init_109 (by decide) ?_
  refine n_21k (k := 16) C0 hO hS (by decide) (by show _ ≤ 167; omega) (by show _ ≤ 2058; omega) dX8_init_111 (fun a41 H hna41 hO hS => ?_)
  have h := h a41 _ hna41 rfl
  refine p8_13 C0 hO hS (new_old (n := 16) hna41 (sA_FR (new_old (n := 16) hna38 (sA_FR (new_old (n := 16) hna35 (sA_FR (new_old (n := 16) hna32 (sA_FR (new_old (n := 16) hna29 (sA_FR (new_old (n := 14) hna26 (sA_FR (new_old (n := 14) hna23 (sA_FR (new_old (n := 14) hna20 (sA_FR (new_old (n := 14) hna17 (sA_FR (new_old (n := 14) hna14 (sA_FR (new_old (n := 14) hna11 (sA_FR (new_old (n := 14) hna8 (sA_FR (new_old (n := 14) hna5 (sA_FR i3)))))))))))))))))))))))))) hin9 rfl tb_1341 dX8_init_113 (fun H locs hO hS => ?_)
  have h := h _ rfl
  refine lv_aload_n C0.1 C0.2.1 dX8_init_116 rfl (lv_at hl 0 rfl) ?_
  refine lv_bipush (v := 16) C0.1 C0.2.1 dX8_init_117 (by decide) ?_
  refine n_21k (k := 16) C0 hO hS (by decide) (by show _ ≤ 167; omega) (by show _ ≤ 2058; omega) dX8_init_119 (fun a44 H hna44 hO hS => ?_)
  have h := h a44 _ hna44 rfl
  refine p8_14 C0 hO hS (new_old (n := 16) hna44 (sA_FR (new_old (n := 16) hna41 (sA_FR (new_old (n := 16) hna38 (sA_FR (new_old (n := 16) hna35 (sA_FR (new_old (n := 16) hna32 (sA_FR (new_old (n := 16) hna29 (sA_FR (new_old (n := 14) hna26 (sA_FR (new_old (n := 14) hna23 (sA_FR (new_old (n := 14) hna20 (sA_FR (new_old (n := 14) hna17 (sA_FR (new_old (n := 14) hna14 (sA_FR (new_old (n := 14) hna11 (sA_FR (new_old (n := 14) hna8 (sA_FR (new_old (n := 14) hna5 (sA_FR i3)))))))))))))))))))))))))))) hin9 rfl tb_1342 dX8_init_121 (fun H locs hO hS => ?_)
  have h := h _ rfl
  refine lv_aload_n C0.1 C0.2.1 dX8_init_124 rfl (lv_at hl 0 rfl) ?_
  refine lv_bipush (v := 16) C0.1 C0.2.1 dX8_init_125 (by decide) ?_
  refine n_23k (k := 16) C0 hO hS (by decide) (by show _ ≤ 167; omega) (by show _ ≤ 2058; omega) dX8_init_127 (fun a47 H hna47 hO hS => ?_)
  have h := h a47 _ hna47 rfl
  refine p8_15 C0 hO hS (new_old (n := 16) hna47 (sA_FR (new_old (n := 16) hna44 (sA_FR (new_old (n := 16) hna41 (sA_FR (new_old (n := 16) hna38 (sA_FR (new_old (n := 16) hna35 (sA_FR (new_old (n := 16) hna32 (sA_FR (new_old (n := 16) hna29 (sA_FR (new_old (n := 14) hna26 (sA_FR (new_old (n := 14) hna23 (sA_FR (new_old (n := 14) hna20 (sA_FR (new_old (n := 14) hna17 (sA_FR (new_old (n := 14) hna14 (sA_FR (new_old (n := 14) hna11 (sA_FR (new_old (n := 14) hna8 (sA_FR (new_old (n := 14) hna5 (sA_FR i3)))))))))))))))))))))))))))))) hin9 rfl tb_1343 dX8_init_129 (fun H locs hO hS => ?_)
  have h := h _ rfl
  refine lv_aload_n C0.1 C0.2.1 dX8_init_132 rfl (lv_at hl 0 rfl) ?_
  refine lv_bipush (v := 16) C0.1 C0.2.1 dX8_init_133 (by decide) ?_
  refine n_23k (k := 16) C0 hO hS (by decide) (by show _ ≤ 167; omega) (by show _ ≤ 2058; omega) dX8_init_135 (fun a50 H hna50 hO hS => ?_)
  have h := h a50 _ hna50 rfl
  refine p8_16 C0 hO hS (new_old (n := 16) hna50 (sA_FR (new_old (n := 16) hna47 (sA_FR (new_old (n := 16) hna44 (sA_FR (new_old (n := 16) hna41 (sA_FR (new_old (n := 16) hna38 (sA_FR (new_old (n := 16) hna35 (sA_FR (new_old (n := 16) hna32 (sA_FR (new_old (n := 16) hna29 (sA_FR (new_old (n := 14) hna26 (sA_FR (new_old (n := 14) hna23 (sA_FR (new_old (n := 14) hna20 (sA_FR (new_old (n := 14) hna17 (sA_FR (new_old (n := 14) hna14 (sA_FR (new_old (n := 14) hna11 (sA_FR (new_old (n := 14) hna8 (sA_FR (new_old (n := 14) hna5 (sA_FR i3)))))))))))))))))))))))))))))))) hin9 rfl tb_1344 dX8_init_137 (fun H locs hO hS => ?_)
  have h := h _ rfl
  refine lv_aload_n C0.1 C0.2.1 dX8_init_140 rfl (lv_at hl 0 rfl) ?_
  refine lv_bipush (v := 16) C0.1 C0.2.1 dX8_init_141 (by decide) ?_
  refine n_21k (k := 16) C0 hO hS (by decide) (by show _ ≤ 167; omega) (by show _ ≤ 2058; omega) dX8_init_143 (fun a53 H hna53 hO hS => ?_)
  have h := h a53 _ hna53 rfl
  refine p8_17 C0 hO hS (new_old (n := 16) hna53 (sA_FR (new_old (n := 16) hna50 (sA_FR (new_old (n := 16) hna47 (sA_FR (new_old (n := 16) hna44 (sA_FR (new_old (n := 16) hna41 (sA_FR (new_old (n := 16) hna38 (sA_FR (new_old (n := 16) hna35 (sA_FR (new_old (n := 16) hna32 (sA_FR (new_old (n := 16) hna29 (sA_FR (new_old (n := 14) hna26 (sA_FR (new_old (n := 14) hna23 (sA_FR (new_old (n := 14) hna20 (sA_FR (new_old (n := 14) hna17 (sA_FR (new_old (n := 14) hna14 (sA_FR (new_old (n := 14) hna11 (sA_FR (new_old (n := 14) hna8 (sA_FR (new_old (n := 14) hna5 (sA_FR i3)))))))))))))))))))))))))))))))))) hin9 rfl tb_1345 dX8_init_145 (fun H locs hO hS => ?_)
  have h := h _ rfl
  refine lv_aload_n C0.1 C0.2.1 dX8_init_148 rfl (lv_at hl 0 rfl) ?_
  refine lv_bipush (v := 16) C0.1 C0.2.1 dX8_init_149 (by decide) ?_
  refine n_21k (k := 16) C0 hO hS (by decide) (by show _ ≤ 167; omega) (by show _ ≤ 2058; omega) dX8_init_151 (fun a56 H hna56 hO hS => ?_)
  have h := h a56 _ hna56 rfl
  refine p8_18 C0 hO hS (new_old (n := 16) hna56 (sA_FR (new_old (n := 16) hna53 (sA_FR (new_old (n := 16) hna50 (sA_FR (new_old (n := 16) hna47 (sA_FR (new_old (n := 16) hna44 (sA_FR (new_old (n := 16) hna41 (sA_FR (new_old (n := 16) hna38 (sA_FR (new_old (n := 16) hna35 (sA_FR (new_old (n := 16) hna32 (sA_FR (new_old (n := 16) hna29 (sA_FR (new_old (n := 14) hna26 (sA_FR (new_old (n := 14) hna23 (sA_FR (new_old (n := 14) hna20 (sA_FR (new_old (n := 14) hna17 (sA_FR (new_old (n := 14) hna14 (sA_FR (new_old (n := 14) hna11 (sA_FR (new_old (n := 14) hna8 (sA_FR (new_old (n := 14) hna5 (sA_FR i3)))))))))))))))))))))))))))))))))))) hin9 rfl tb_1346 dX8_init_153 (fun H locs hO hS => ?_)
  have h := h _ rfl
  refine lv_aload_n C0.1 C0.2.1 dX8_init_156 rfl (lv_at hl 0 rfl) ?_
  refine lv_bipush (v := 16) C0.1 C0.2.1 dX8_init_157 (by decide) ?_
  refine n_22k (k := 16) C0 hO hS (by decide) (by show _ ≤ 167; omega) (by show _ ≤ 2058; omega) dX8_init_159 (fun a59 H hna59 hO hS => ?_)
  have h := h a59 _ hna59 rfl
  refine p8_19 C0 hO hS (new_old (n := 16) hna59 (sA_FR (new_old (n := 16) hna56 (sA_FR (new_old (n := 16) hna53 (sA_FR (new_old (n := 16) hna50 (sA_FR (new_old (n := 16) hna47 (sA_FR (new_old (n := 16) hna44 (sA_FR (new_old (n := 16) hna41 (sA_FR (new_old (n := 16) hna38 (sA_FR (new_old (n := 16) hna35 (sA_FR (new_old (n := 16) hna32 (sA_FR (new_old (n := 16) hna29 (sA_FR (new_old (n := 14) hna26 (sA_FR (new_old (n := 14) hna23 (sA_FR (new_old (n := 14) hna20 (sA_FR (new_old (n := 14) hna17 (sA_FR (new_old (n := 14) hna14 (sA_FR (new_old (n := 14) hna11 (sA_FR (new_old (n := 14) hna8 (sA_FR (new_old (n := 14) hna5 (sA_FR i3)))))))))))))))))))))))))))))))))))))) hin9 rfl tb_1347 dX8_init_161 (fun H locs hO hS => ?_)
  have h := h _ rfl
  refine lv_aload_n C0.1 C0.2.1 dX8_init_164 rfl (lv_at hl 0 rfl) ?_
  refine lv_bipush (v := 16) C0.1 C0.2.1 dX8_init_165 (by decide) ?_
  refine n_22k (k := 16) C0 hO hS (by decide) (by show _ ≤ 167; omega) (by show _ ≤ 2058; omega) dX8_init_167 (fun a62 H hna62 hO hS => ?_)
  have h := h a62 _ hna62 rfl
  refine p8_20 C0 hO hS (new_old (n := 16) hna62 (sA_FR (new_old (n := 16) hna59 (sA_FR (new_old (n := 16) hna56 (sA_FR (new_old (n := 16) hna53 (sA_FR (new_old (n := 16) hna50 (sA_FR (new_old (n := 16) hna47 (sA_FR (new_old (n := 16) hna44 (sA_FR (new_old (n := 16) hna41 (sA_FR (new_old (n := 16) hna38 (sA_FR (new_old (n := 16) hna35 (sA_FR (new_old (n := 16) hna32 (sA_FR (new_old (n := 16) hna29 (sA_FR (new_old (n := 14) hna26 (sA_FR (new_old (n := 14) hna23 (sA_FR (new_old (n := 14) hna20 (sA_FR (new_old (n := 14) hna17 (sA_FR (new_old (n := 14) hna14 (sA_FR (new_old (n := 14) hna11 (sA_FR (new_old (n := 14) hna8 (sA_FR (new_old (n := 14) hna5 (sA_FR i3)))))))))))))))))))))))))))))))))))))))) hin9 rfl tb_1348 dX8_init_169 (fun H locs hO hS => ?_)
  have h := h _ rfl
  refine lv_aload_n C0.1 C0.2.1 dX8_init_172 rfl (lv_at hl 0 rfl) ?_
  refine lv_bipush (v := 16) C0.1 C0.2.1 dX8_init_173 (by decide) ?_
  refine n_22k (k := 16) C0 hO hS (by decide) (by show _ ≤ 167; omega) (by show _ ≤ 2058; omega) dX8_init_175 (fun a65 H hna65 hO hS => ?_)
  have h := h a65 _ hna65 rfl
  refine p8_21 C0 hO hS (new_old (n := 16) hna65 (sA_FR (new_old (n := 16) hna62 (sA_FR (new_old (n := 16) hna59 (sA_FR (new_old (n := 16) hna56 (sA_FR (new_old (n := 16) hna53 (sA_FR (new_old (n := 16) hna50 (sA_FR (new_old (n := 16) hna47 (sA_FR (new_old (n := 16) hna44 (sA_FR (new_old (n := 16) hna41 (sA_FR (new_old (n := 16) hna38 (sA_FR (new_old (n := 16) hna35 (sA_FR (new_old (n := 16) hna32 (sA_FR (new_old (n := 16) hna29 (sA_FR (new_old (n := 14) hna26 (sA_FR (new_old (n := 14) hna23 (sA_FR (new_old (n := 14) hna20 (sA_FR (new_old (n := 14) hna17 (sA_FR (new_old (n := 14) hna14 (sA_FR (new_old (n := 14) hna11 (sA_FR (new_old (n := 14) hna8 (sA_FR (new_old (n := 14) hna5 (sA_FR i3)))))))))))))))))))))))))))))))))))))))))) hin9 rfl tb_1349 dX8_init_177 (fun H locs hO hS => ?_)
  have h := h _ rfl
  refine lv_aload_n C0.1 C0.2.1 dX8_init_180 rfl (lv_at hl 0 rfl) ?_
  refine lv_bipush (v := 8) C0.1 C0.2.1 dX8_init_181 (by decide) ?_
  refine n_21k (k := 8) C0 hO hS (by decide) (by show _ ≤ 167; omega) (by show _ ≤ 2058; omega) dX8_init_183 (fun a68 H hna68 hO hS => ?_)
  have h := h a68 _ hna68 rfl
  refine p8_22 C0 hO hS (new_old (n := 8) hna68 (sA_FR (new_old (n := 16) hna65 (sA_FR (new_old (n := 16) hna62 (sA_FR (new_old (n := 16) hna59 (sA_FR (new_old (n := 16) hna56 (sA_FR (new_old (n := 16) hna53 (sA_FR (new_old (n := 16) hna50 (sA_FR (new_old (n := 16) hna47 (sA_FR (new_old (n := 16) hna44 (sA_FR (new_old (n := 16) hna41 (sA_FR (new_old (n := 16) hna38 (sA_FR (new_old (n := 16) hna35 (sA_FR (new_old (n := 16) hna32 (sA_FR (new_old (n := 16) hna29 (sA_FR (new_old (n := 14) hna26 (sA_FR (new_old (n := 14) hna23 (sA_FR (new_old (n := 14) hna20 (sA_FR (new_old (n := 14) hna17 (sA_FR (new_old (n := 14) hna14 (sA_FR (new_old (n := 14) hna11 (sA_FR (new_old (n := 14) hna8 (sA_FR (new_old (n := 14) hna5 (sA_FR i3)))))))))))))))))))))))))))))))))))))))))))) hin9 rfl tb_1350 dX8_init_185 (fun H locs hO hS => ?_)
  have h := h _ rfl
  refine lv_aload_n C0.1 C0.2.1 dX8_init_188 rfl (lv_at hl 0 rfl) ?_
  refine lv_bipush (v := 8) C0.1 C0.2.1 dX8_init_189 (by decide) ?_
  refine n_21k (k := 8) C0 hO hS (by decide) (by show _ ≤ 167; omega) (by show _ ≤ 2058; omega) dX8_init_191 (fun a71 H hna71 hO hS => ?_)
  have h := h a71 _ hna71 rfl
  refine p8_23 C0 hO hS (new_old (n := 8) hna71 (sA_FR (new_old (n := 8) hna68 (sA_FR (new_old (n := 16) hna65 (sA_FR (new_old (n := 16) hna62 (sA_FR (new_old (n := 16) hna59 (sA_FR (new_old (n := 16) hna56 (sA_FR (new_old (n := 16) hna53 (sA_FR (new_old (n := 16) hna50 (sA_FR (new_old (n := 16) hna47 (sA_FR (new_old (n := 16) hna44 (sA_FR (new_old (n := 16) hna41 (sA_FR (new_old (n := 16) hna38 (sA_FR (new_old (n := 16) hna35 (sA_FR (new_old (n := 16) hna32 (sA_FR (new_old (n := 16) hna29 (sA_FR (new_old (n := 14) hna26 (sA_FR (new_old (n := 14) hna23 (sA_FR (new_old (n := 14) hna20 (sA_FR (new_old (n := 14) hna17 (sA_FR (new_old (n := 14) hna14 (sA_FR (new_old (n := 14) hna11 (sA_FR (new_old (n := 14) hna8 (sA_FR (new_old (n := 14) hna5 (sA_FR i3)))))))))))))))))))))))))))))))))))))))))))))) hin9 rfl tb_1351 dX8_init_193 (fun H locs hO hS => ?_)
  have h := h _ rfl
  refine lv_aload_n C0.1 C0.2.1 dX8_init_196 rfl (lv_at hl 0 rfl) ?_
  refine lv_bipush (v := 8) C0.1 C0.2.1 dX8_init_197 (by decide) ?_
  refine lv_bipush (v := 24) C0.1 C0.2.1 dX8_init_199 (by decide) ?_
  refine n_mna2_int (n := 8) (k := 24) C0 hO hS tb_1321 (by decide) (by decide) (by show _ ≤ 167; omega) (by show _ ≤ 2058; omega) dX8_init_201 (fun a74 ra74 H hna74 hO hS => ?_)
  have h := h a74 ra74 _ hna74 rfl
  refine p8_24 C0 hO hS (mk2_old hna74 (sA_FR (new_old (n := 8) hna71 (sA_FR (new_old (n := 8) hna68 (sA_FR (new_old (n := 16) hna65 (sA_FR (new_old (n := 16) hna62 (sA_FR (new_old (n := 16) hna59 (sA_FR (new_old (n := 16) hna56 (sA_FR (new_old (n := 16) hna53 (sA_FR (new_old (n := 16) hna50 (sA_FR (new_old (n := 16) hna47 (sA_FR (new_old (n := 16) hna44 (sA_FR (new_old (n := 16) hna41 (sA_FR (new_old (n := 16) hna38 (sA_FR (new_old (n := 16) hna35 (sA_FR (new_old (n := 16) hna32 (sA_FR (new_old (n := 16) hna29 (sA_FR (new_old (n := 14) hna26 (sA_FR (new_old (n := 14) hna23 (sA_FR (new_old (n := 14) hna20 (sA_FR (new_old (n := 14) hna17 (sA_FR (new_old (n := 14) hna14 (sA_FR (new_old (n := 14) hna11 (sA_FR (new_old (n := 14) hna8 (sA_FR (new_old (n := 14) hna5 (sA_FR i3)))))))))))))))))))))))))))))))))))))))))))))))) hin9 rfl tb_1352 dX8_init_205 (fun H locs hO hS => ?_)
  have h := h _ rfl
  refine lv_aload_n C0.1 C0.2.1 dX8_init_208 rfl (lv_at hl 0 rfl) ?_
  refine lv_bipush (v := 8) C0.1 C0.2.1 dX8_init_209 (by decide) ?_
  refine lv_bipush (v := 24) C0.1 C0.2.1 dX8_init_211 (by decide) ?_
  refine n_mna2_int (n := 8) (k := 24) C0 hO hS tb_1321 (by decide) (by decide) (by show _ ≤ 167; omega) (by show _ ≤ 2058; omega) dX8_init_213 (fun a77 ra77 H hna77 hO hS => ?_)
  have h := h a77 ra77 _ hna77 rfl
  refine p8_25 C0 hO hS (mk2_old hna77 (sA_FR (mk2_old hna74 (sA_FR (new_old (n := 8) hna71 (sA_FR (new_old (n := 8) hna68 (sA_FR (new_old (n := 16) hna65 (sA_FR (new_old (n := 16) hna62 (sA_FR (new_old (n := 16) hna59 (sA_FR (new_old (n := 16) hna56 (sA_FR (new_old (n := 16) hna53 (sA_FR (new_old (n := 16) hna50 (sA_FR (new_old (n := 16) hna47 (sA_FR (new_old (n := 16) hna44 (sA_FR (new_old (n := 16) hna41 (sA_FR (new_old (n := 16) hna38 (sA_FR (new_old (n := 16) hna35 (sA_FR (new_old (n := 16) hna32 (sA_FR (new_old (n := 16) hna29 (sA_FR (new_old (n := 14) hna26 (sA_FR (new_old (n := 14) hna23 (sA_FR (new_old (n := 14) hna20 (sA_FR (new_old (n := 14) hna17 (sA_FR (new_old (n := 14) hna14 (sA_FR (new_old (n := 14) hna11 (sA_FR (new_old (n := 14) hna8 (sA_FR (new_old (n := 14) hna5 (sA_FR i3)))))))))))))))))))))))))))))))))))))))))))))))))) hin9 rfl tb_1353 dX8_init_217 (fun H locs hO hS => ?_)
  have h := h _ rfl
  refine lv_aload_n C0.1 C0.2.1 dX8_init_220 rfl (lv_at hl 0 rfl) ?_
  refine lv_bipush (v := 8) C0.1 C0.2.1 dX8_init_221 (by decide) ?_
  refine lv_bipush (v := 24) C0.1 C0.2.1 dX8_init_223 (by decide) ?_
  refine n_mna2_char (n := 8) (k := 24) C0 hO hS tb_1323 (by decide) (by decide) (by show _ ≤ 167; omega) (by show _ ≤ 2058; omega) dX8_init_225 (fun a80 ra80 H hna80 hO hS => ?_)
  have h := h a80 ra80 _ hna80 rfl
  refine p8_26 C0 hO hS (mk2_old hna80 (sA_FR (mk2_old hna77 (sA_FR (mk2_old hna74 (sA_FR (new_old (n := 8) hna71 (sA_FR (new_old (n := 8) hna68 (sA_FR (new_old (n := 16) hna65 (sA_FR (new_old (n := 16) hna62 (sA_FR (new_old (n := 16) hna59 (sA_FR (new_old (n := 16) hna56 (sA_FR (new_old (n := 16) hna53 (sA_FR (new_old (n := 16) hna50 (sA_FR (new_old (n := 16) hna47 (sA_FR (new_old (n := 16) hna44 (sA_FR (new_old (n := 16) hna41 (sA_FR (new_old (n := 16) hna38 (sA_FR (new_old (n := 16) hna35 (sA_FR (new_old (n := 16) hna32 (sA_FR (new_old (n := 16) hna29 (sA_FR (new_old (n := 14) hna26 (sA_FR (new_old (n := 14) hna23 (sA_FR (new_old (n := 14) hna20 (sA_FR (new_old (n := 14) hna17 (sA_FR (new_old (n := 14) hna14 (sA_FR (new_old (n := 14) hna11 (sA_FR (new_old (n := 14) hna8 (sA_FR (new_old (n := 14) hna5 (sA_FR i3)))))))))))))))))))))))))))))))))))))))))))))))))))) hin9 rfl tb_1354 dX8_init_229 (fun H locs hO hS => ?_)
  have h := h _ rfl
  refine lv_aload_n C0.1 C0.2.1 dX8_init_232 rfl (lv_at hl 0 rfl) ?_
  refine lv_bipush (v := 8) C0.1 C0.2.1 dX8_init_233 (by decide) ?_
  refine lv_bipush (v := 24) C0.1 C0.2.1 dX8_init_235 (by decide) ?_
  refine n_mna2_int (n := 8) (k := 24) C0 hO hS tb_1321 (by decide) (by decide) (by show _ ≤ 167; omega) (by show _ ≤ 2058; omega) dX8_init_237 (fun a83 ra83 H hna83 hO hS => ?_)
  have h := h a83 ra83 _ hna83 rfl
  refine p8_27 C0 hO hS (mk2_old hna83 (sA_FR (mk2_old hna80 (sA_FR (mk2_old hna77 (sA_FR (mk2_old hna74 (sA_FR (new_old (n := 8) hna71 (sA_FR (new_old (n := 8) hna68 (sA_FR (new_old (n := 16) hna65 (sA_FR (new_old (n := 16) hna62 (sA_FR (new_old (n := 16) hna59 (sA_FR (new_old (n := 16) hna56 (sA_FR (new_old (n := 16) hna53 (sA_FR (new_old (n := 16) hna50 (sA_FR (new_old (n := 16) hna47 (sA_FR (new_old (n := 16) hna44 (sA_FR (new_old (n := 16) hna41 (sA_FR (new_old (n := 16) hna38 (sA_FR (new_old (n := 16) hna35 (sA_FR (new_old (n := 16) hna32 (sA_FR (new_old (n := 16) hna29 (sA_FR (new_old (n := 14) hna26 (sA_FR (new_old (n := 14) hna23 (sA_FR (new_old (n := 14) hna20 (sA_FR (new_old (n := 14) hna17 (sA_FR (new_old (n := 14) hna14 (sA_FR (new_old (n := 14) hna11 (sA_FR (new_old (n := 14) hna8 (sA_FR (new_old (n := 14) hna5 (sA_FR i3)))))))))))))))))))))))))))))))))))))))))))))))))))))) hin9 rfl tb_1355 dX8_init_241 (fun H locs hO hS => ?_)
  have h := h _ rfl
  refine lv_aload_n C0.1 C0.2.1 dX8_init_244 rfl (lv_at hl 0 rfl) ?_
  refine lv_iconst (v := 4) C0.1 C0.2.1 dX8_init_245 (by decide) ?_
  refine n_21k (k := 4) C0 hO hS (by decide) (by show _ ≤ 167; omega) (by show _ ≤ 2058; omega) dX8_init_246 (fun a86 H hna86 hO hS => ?_)
  have h := h a86 _ hna86 rfl
  refine p8_28 C0 hO hS (new_old (n := 4) hna86 (sA_FR (mk2_old hna83 (sA_FR (mk2_old hna80 (sA_FR (mk2_old hna77 (sA_FR (mk2_old hna74 (sA_FR (new_old (n := 8) hna71 (sA_FR (new_old (n := 8) hna68 (sA_FR (new_old (n := 16) hna65 (sA_FR (new_old (n := 16) hna62 (sA_FR (new_old (n := 16) hna59 (sA_FR (new_old (n := 16) hna56 (sA_FR (new_old (n := 16) hna53 (sA_FR (new_old (n := 16) hna50 (sA_FR (new_old (n := 16) hna47 (sA_FR (new_old (n := 16) hna44 (sA_FR (new_old (n := 16) hna41 (sA_FR (new_old (n := 16) hna38 (sA_FR (new_old (n := 16) hna35 (sA_FR (new_old (n := 16) hna32 (sA_FR (new_old (n := 16) hna29 (sA_FR (new_old (n := 14) hna26 (sA_FR (new_old (n := 14) hna23 (sA_FR (new_old (n := 14) hna20 (sA_FR (new_old (n := 14) hna17 (sA_FR (new_old (n := 14) hna14 (sA_FR (new_old (n := 14) hna11 (sA_FR (new_old (n := 14) hna8 (sA_FR (new_old (n := 14) hna5 (sA_FR i3)))))))))))))))))))))))))))))))))))))))))))))))))))))))) hin9 rfl tb_1356 dX8_init_248 (fun H locs hO hS => ?_)
  have h := h _ rfl
  refine lv_aload_n C0.1 C0.2.1 dX8_init_251 rfl (lv_at hl 0 rfl) ?_
  refine lv_iconst (v := 4) C0.1 C0.2.1 dX8_init_252 (by decide) ?_
  refine lv_bipush (v := 24) C0.1 C0.2.1 dX8_init_253 (by decide) ?_
  refine lv_bipush (v := 8) C0.1 C0.2.1 dX8_init_255 (by decide) ?_
  refine n_mna3 (n := 4) (k := 24) (j := 8) C0 hO hS tb_1325 (by decide) (by decide) (by decide) (by show _ ≤ 167; omega) (by show _ ≤ 2058; omega) dX8_init_257 (fun a89 qa89 ra89 H hna89 hO hS => ?_)
  have h := h a89 qa89 ra89 _ hna89 rfl
  refine p8_29 C0 hO hS (mk3_old hna89 (sA_FR (new_old (n := 4) hna86 (sA_FR (mk2_old hna83 (sA_FR (mk2_old hna80 (sA_FR (mk2_old hna77 (sA_FR (mk2_old hna74 (sA_FR (new_old (n := 8) hna71 (sA_FR (new_old (n := 8) hna68 (sA_FR (new_old (n := 16) hna65 (sA_FR (new_old (n := 16) hna62 (sA_FR (new_old (n := 16) hna59 (sA_FR (new_old (n := 16) hna56 (sA_FR (new_old (n := 16) hna53 (sA_FR (new_old (n := 16) hna50 (sA_FR (new_old (n := 16) hna47 (sA_FR (new_old (n := 16) hna44 (sA_FR (new_old (n := 16) hna41 (sA_FR (new_old (n := 16) hna38 (sA_FR (new_old (n := 16) hna35 (sA_FR (new_old (n := 16) hna32 (sA_FR (new_old (n := 16) hna29 (sA_FR (new_old (n := 14) hna26 (sA_FR (new_old (n := 14) hna23 (sA_FR (new_old (n := 14) hna20 (sA_FR (new_old (n := 14) hna17 (sA_FR (new_old (n := 14) hna14 (sA_FR (new_old (n := 14) hna11 (sA_FR (new_old (n := 14) hna8 (sA_FR (new_old (n := 14) hna5 (sA_FR i3)))))))))))))))))))))))))))))))))))))))))))))))))))))))))) hin9 rfl tb_1357 dX8_init_261 (fun H locs hO hS => ?_)
  have h := h _ rfl
  refine lv_aload_n C0.1 C0.2.1 dX8_init_264 rfl (lv_at hl 0 rfl) ?_
  refine lv_iconst (v := 4) C0.1 C0.2.1 dX8_init_265 (by decide) ?_
  refine lv_bipush (v := 8) C0.1 C0.2.1 dX8_init_266 (by decide) ?_
  refine n_mna2_int (n := 4) (k := 8) C0 hO hS tb_1321 (by decide) (by decide) (by show _ ≤ 167; omega) (by show _ ≤ 2058; omega) dX8_init_268 (fun a92 ra92 H hna92 hO hS => ?_)
  have h := h a92 ra92 _ hna92 rfl
  refine p8_30 C0 hO hS (mk2_old hna92 (sA_FR (mk3_old hna89 (sA_FR (new_old (n := 4) hna86 (sA_FR (mk2_old hna83 (sA_FR (mk2_old hna80 (sA_FR (mk2_old hna77 (sA_FR (mk2_old hna74 (sA_FR (new_old (n := 8) hna71 (sA_FR (new_old (n := 8) hna68 (sA_FR (new_old (n := 16) hna65 (sA_FR (new_old (n := 16) hna62 (sA_FR (new_old (n := 16) hna59 (sA_FR (new_old (n := 16) hna56 (sA_FR (new_old (n := 16) hna53 (sA_FR (new_old (n := 16) hna50 (sA_FR (new_old (n := 16) hna47 (sA_FR (new_old (n := 16) hna44 (sA_FR (new_old (n := 16) hna41 (sA_FR (new_old (n := 16) hna38 (sA_FR (new_old (n := 16) hna35 (sA_FR (new_old (n := 16) hna32 (sA_FR (new_old (n := 16) hna29 (sA_FR (new_old (n := 14) hna26 (sA_FR (new_old (n := 14) hna23 (sA_FR (new_old (n := 14) hna20 (sA_FR (new_old (n := 14) hna17 (sA_FR (new_old (n := 14) hna14 (sA_FR (new_old (n := 14) hna11 (sA_FR (new_old (n := 14) hna8 (sA_FR (new_old (n := 14) hna5 (sA_FR i3)))))))))))))))))))))))))))))))))))))))))))))))))))))))))))) hin9 rfl tb_1358 dX8_init_272 (fun H locs hO hS => ?_)
  have h := h _ rfl
  refine lv_aload_n C0.1 C0.2.1 dX8_init_275 rfl (lv_at hl 0 rfl) ?_
  refine lv_lconst (v := 1) C0.1 C0.2.1 dX8_init_276 (by decide) ?_
  refine p8_36 C0 hO hS (sA_FR (mk2_old hna92 (sA_FR (mk3_old hna89 (sA_FR (new_old (n := 4) hna86 (sA_FR (mk2_old hna83 (sA_FR (mk2_old hna80 (sA_FR (mk2_old hna77 (sA_FR (mk2_old hna74 (sA_FR (new_old (n := 8) hna71 (sA_FR (new_old (n := 8) hna68 (sA_FR (new_old (n := 16) hna65 (sA_FR (new_old (n := 16) hna62 (sA_FR (new_old (n := 16) hna59 (sA_FR (new_old (n := 16) hna56 (sA_FR (new_old (n := 16) hna53 (sA_FR (new_old (n := 16) hna50 (sA_FR (new_old (n := 16) hna47 (sA_FR (new_old (n := 16) hna44 (sA_FR (new_old (n := 16) hna41 (sA_FR (new_old (n := 16) hna38 (sA_FR (new_old (n := 16) hna35 (sA_FR (new_old (n := 16) hna32 (sA_FR (new_old (n := 16) hna29 (sA_FR (new_old (n := 14) hna26 (sA_FR (new_old (n := 14) hna23 (sA_FR (new_old (n := 14) hna20 (sA_FR (new_old (n := 14) hna17 (sA_FR (new_old (n := 14) hna14 (sA_FR (new_old (n := 14) hna11 (sA_FR (new_old (n := 14) hna8 (sA_FR (new_old (n := 14) hna5 (sA_FR i3))))))))))))))))))))))))))))))))))))))))))))))))))))))))))))) tb_1364 dX8_init_277 (fun H locs hO hS => ?_)
  have h := h _ rfl
  exact e_V C0 Y hO hS h (by show _ ≤ 167; omega) (by show _ ≤ 2058; omega) dX8_init_280
def wX8_init (S : Hp) (x0 : Nat) (Φ : Hp → Prop) : Prop := wX8_init_b0 x0 Φ S
set_option maxRecDepth 100000 in
theorem mX8_init {l : Launch} {G : Gw} {S : Hp} {x0 : Nat} {Φ : Hp → Prop} (h : wX8_init S x0 Φ) : gM l yX8_init cX8_init 1 none rm_X8_init [.ref x0] G S (PV Φ) := by
  unfold gM
  refine Met.ofW (cc := cX8_init) (maxL := 1) (ret := none) (by decide) rfl ?_
  intro p e s m args below meth c s₁ B hml hv
  obtain ⟨rfl, hw⟩ := hv
  obtain ⟨C0, Y, hO⟩ := mx_of B hml hw
  have hS : va_S (Ab G.b) s.heap s.heap [] := va_S.rf
  have hin9 : meth.name = "<init>" := (name_of_methodNamed B.named B.method).1
  have hl := lv_entry ([.ref x0]) (n := 1) (Nat.le_of_ble_eq_true rfl)
  rw [lg_entry_eq]
  generalize (lg_sl ([.ref x0]) ++ List.replicate (1 - (lg_sl ([.ref x0])).length) Slot.unset).toArray = ls at hl ⊢
  have hl : lv_has ls 1 [(0, .ref x0)] := hl
  exact bX8_init_b0 C0 Y hin9 S _ _ _ 0 0 h hO hS hl (by decide) (by decide)
