def rm_X7_init : Room := { frames := 4, cells := 50, slots := 729, locals := 72 }
def wX7_init_b0 (x0 : Nat) (Φ : Hp → Prop) (S : Hp) : Prop := ∀ a1 S2, a1 ∉ S.L → S2 = S.new a1 9 0 → wJx4a65c_init_da8c8 S2 a1 (fun S3 => isA S3 x0 7 ∧ ∀ S5, S5 = S3.setFR 448 x0 (some a1) → ∀ a6 S7, a6 ∉ S5.L → S7 = S5.new a6 9 0 → wJx4a65c_init_da8c8 S7 a6 (fun S8 => isA S8 x0 7 ∧ ∀ S10, S10 = S8.setFR 449 x0 (some a6) → ∀ a11 S12, a11 ∉ S10.L → S12 = S10.new a11 9 0 → wJx4a65c_init_da8c8 S12 a11 (fun S13 => isA S13 x0 7 ∧ ∀ S15, S15 = S13.setFR 450 x0 (some a11) → ∀ a16 S17, a16 ∉ S15.L → S17 = S15.new a16 9 0 → wJx4a65c_init_da8c8 S17 a16 (fun S18 => isA S18 x0 7 ∧ ∀ S20, S20 = S18.setFR 451 x0 (some a16) → ∀ a21 S22, a21 ∉ S20.L → S22 = S20.new a21 21 14 → ∀ S23, S23 = S22.setFR 452 x0 (some a21) → ∀ a24 S25, a24 ∉ S23.L → S25 = S23.new a24 21 14 → ∀ S26, S26 = S25.setFR 453 x0 (some a24) → ∀ a27 S28, a27 ∉ S26.L → S28 = S26.new a27 23 14 → ∀ S29, S29 = S28.setFR 454 x0 (some a27) → ∀ a30 S31, a30 ∉ S29.L → S31 = S29.new a30 23 14 → ∀ S32, S32 = S31.setFR 455 x0 (some a30) → ∀ a33 S34, a33 ∉ S32.L → S34 = S32.new a33 4 0 → wX4_init S34 a33 14 (fun S35 => isA S35 x0 7 ∧ ∀ S37, S37 = S35.setFR 456 x0 (some a33) → ∀ a38 S39, a38 ∉ S37.L → S39 = S37.new a38 4 0 → wX4_init S39 a38 16 (fun S40 => isA S40 x0 7 ∧ ∀ S42, S42 = S40.setFR 457 x0 (some a38) → ∀ a43 S44, a43 ∉ S42.L → S44 = S42.new a43 6 0 → wX6_init S44 a43 (fun S45 => isA S45 x0 7 ∧ ∀ S47, S47 = S45.setFR 458 x0 (some a43) → ∀ a48 S49, a48 ∉ S47.L → S49 = S47.new a48 6 0 → wX6_init S49 a48 (fun S50 => isA S50 x0 7 ∧ ∀ S52, S52 = S50.setFR 459 x0 (some a48) → ∀ a53 S54, a53 ∉ S52.L → S54 = S52.new a53 6 0 → wX6_init S54 a53 (fun S55 => isA S55 x0 7 ∧ ∀ S57, S57 = S55.setFR 460 x0 (some a53) → ∀ S58, S58 = S57.setFI 462 x0 (-1) → ∃ a59, S58.FR 452 x0 = some a59 ∧ wJ7_fill_53178 S58 a59 (-1) (fun S60 => Φ S60))))))))))
set_option maxHeartbeats 4000000 in
set_option maxRecDepth 100000 in
theorem bX7_init_b0 {p : Program} {l : Launch} {e : Env} {s : State} {m : MethodId} {args : Array Value} {below : List Frame} {meth : Method} {c : Code} {G : Gw} {x0 : Nat} {Φ : Hp → Prop} (C0 : Mx p s m c cX7_init 1 args yX7_init.cls G) (Y : My meth none) (hin9 : meth.name = "<init>")  : ∀ (S : Hp) (H : Heap) (locs : List Loc) (ls : Array Slot) (cells slots : Nat), wX7_init_b0 x0 Φ S → Ok G S H → va_S (Ab G.b) s.heap H locs → lv_has ls 1 [(0, .ref x0)] → cells + (50) ≤ 50 → slots + (729) ≤ 729 → W p l e rm_X7_init s m args below meth c H locs cells slots (MQ below (gQ G (PV Φ)) args s rm_X7_init.cells rm_X7_init.slots (Ab G.b)) (F0 m 0 ls []) := by
  intro S H locs ls cells slots h hO hS hl hcc hss
  unfold wX7_init_b0 at h
  refine lv_aload_n C0.1 C0.2.1 dX7_init_0 rfl (lv_at hl 0 rfl) ?_
  refine W.objInit C0.1 C0.2.1 C0.2.2.2.1 (C0.2.2.2.2.1 _ tb_57) (C0.2.2.2.2.1 _ tb_58) (C0.2.2.2.2.1 _ tb_59) rfl (hl.1.trans C0.2.2.1.symm) rfl dX7_init_1 (Nat.le_of_ble_eq_true rfl) (Nat.le_of_ble_eq_true rfl) ?_
  refine W.eq (g2 := F0 _ 4 _ _) rfl ?_
  refine lv_aload_n C0.1 C0.2.1 dX7_init_4 rfl (lv_at hl 0 rfl) ?_
  refine n_9 C0 hO hS tb_60 tb_61 tb_30 (by show _ ≤ 50; omega) (by show _ ≤ 729; omega) dX7_init_5 (fun a1 H hna1 hO hS => ?_)
  have h := h a1 _ hna1 rfl
  refine lv_dup C0.1 C0.2.1 dX7_init_8 rfl ?_
  refine c_I C0 hO hS (mJx4a65c_init_da8c8 h) tb_62 tb_63 tb_30 tb_64 rfl hd_Jx4a65c_init_da8c8 rfl ⟨⟨by decide, by decide⟩, by show _ + 0 ≤ 50; omega, by show _ + 0 ≤ 729; omega⟩ hl.1 rfl (Nat.le_of_ble_eq_true rfl) dX7_init_9 (kV (fun S3 H locs h hO hS => ?_))
  change W _ _ _ _ _ _ _ _ _ _ _ _ (_ + 0) (_ + 0) _ _
  obtain ⟨i4, h⟩ := h
  refine p7_0 C0 hO hS i4 hin9 rfl tb_135 dX7_init_12 (fun H locs hO hS => ?_)
  have h := h _ rfl
  refine lv_aload_n C0.1 C0.2.1 dX7_init_15 rfl (lv_at hl 0 rfl) ?_
  refine n_9 C0 hO hS tb_60 tb_61 tb_30 (by show _ ≤ 50; omega) (by show _ ≤ 729; omega) dX7_init_16 (fun a6 H hna6 hO hS => ?_)
  have h := h a6 _ hna6 rfl
  refine lv_dup C0.1 C0.2.1 dX7_init_19 rfl ?_
  refine c_I C0 hO hS (mJx4a65c_init_da8c8 h) tb_62 tb_63 tb_30 tb_64 rfl hd_Jx4a65c_init_da8c8 rfl ⟨⟨by decide, by decide⟩, by show _ + 0 ≤ 50; omega, by show _ + 0 ≤ 729; omega⟩ hl.1 rfl (Nat.le_of_ble_eq_true rfl) dX7_init_20 (kV (fun S8 H locs h hO hS => ?_))
  change W _ _ _ _ _ _ _ _ _ _ _ _ (_ + 0) (_ + 0) _ _
  obtain ⟨i9, h⟩ := h
  refine p7_1 C0 hO hS i9 hin9 rfl tb_136 dX7_init_23 (fun H locs hO hS => ?_)
  have h := h _ rfl
  refine lv_aload_n C0.1 C0.2.1 dX7_init_26 rfl (lv_at hl 0 rfl) ?_
  refine n_9 C0 hO hS tb_60 tb_61 tb_30 (by show _ ≤ 50; omega) (by show _ ≤ 729; omega) dX7_init_27 (fun a11 H hna11 hO hS => ?_)
  have h := h a11 _ hna11 rfl
  refine lv_dup C0.1 C0.2.1 dX7_init_30 rfl ?_
  refine c_I C0 hO hS (mJx4a65c_init_da8c8 h) tb_62 tb_63 tb_30 tb_64 rfl hd_Jx4a65c_init_da8c8 rfl ⟨⟨by decide, by decide⟩, by show _ + 0 ≤ 50; omega, by show _ + 0 ≤ 729; omega⟩ hl.1 rfl (Nat.le_of_ble_eq_true rfl) dX7_init_31 (kV (fun S13 H locs h hO hS => ?_))
  change W _ _ _ _ _ _ _ _ _ _ _ _ (_ + 0) (_ + 0) _ _
  obtain ⟨i14, h⟩ := h
  refine p7_2 C0 hO hS i14 hin9 rfl tb_137 dX7_init_34 (fun H locs hO hS => ?_)
  have h := h _ rfl
  refine lv_aload_n C0.1 C0.2.1 dX7_init_37 rfl (lv_at hl 0 rfl) ?_
  refine n_9 C0 hO hS tb_60 tb_61 tb_30 (by show _ ≤ 50; omega) (by show _ ≤ 729; omega) dX7_init_38 (fun a16 H hna16 hO hS => ?_)
  have h := h a16 _ hna16 rfl
  refine lv_dup C0.1 C0.2.1 dX7_init_41 rfl ?_
  refine c_I C0 hO hS (mJx4a65c_init_da8c8 h) tb_62 tb_63 tb_30 tb_64 rfl hd_Jx4a65c_init_da8c8 rfl ⟨⟨by decide, by decide⟩, by show _ + 0 ≤ 50; omega, by show _ + 0 ≤ 729; omega⟩ hl.1 rfl (Nat.le_of_ble_eq_true rfl) dX7_init_42 (kV (fun S18 H locs h hO hS => ?_))
  change W _ _ _ _ _ _ _ _ _ _ _ _ (_ + 0) (_ + 0) _ _
  obtain ⟨i19, h⟩ := h
  refine p7_3 C0 hO hS i19 hin9 rfl tb_138 dX7_init_45 (fun H locs hO hS => ?_)
  have h := h _ rfl
  refine lv_aload_n C0.1 C0.2.1 dX7_init_48 rfl (lv_at hl 0 rfl) ?_
  refine lv_bipush (v := 14) C0.1 C0.2.1 dX7_init_49 (by decide) ?_
  refine n_21k (k := 14) C0 hO hS (by decide) (by show _ ≤ 50; omega) (by show _ ≤ 729; omega) dX7_init_51 (fun a21 H hna21 hO hS => ?_)
  have h := h a21 _ hna21 rfl
  refine p7_4 C0 hO hS (new_old (n := 14) hna21 (sA_FR i19)) hin9 rfl tb_139 dX7_init_53 (fun H locs hO hS => ?_)
  have h := h _ rfl
  refine lv_aload_n C0.1 C0.2.1 dX7_init_56 rfl (lv_at hl 0 rfl) ?_
  refine lv_bipush (v := 14) C0.1 C0.2.1 dX7_init_57 (by decide) ?_
  refine n_21k (k := 14) C0 hO hS (by decide) (by show _ ≤ 50; omega) (by show _ ≤ 729; omega) dX7_init_59 (fun a24 H hna24 hO hS => ?_)
  have h := h a24 _ hna24 rfl
  refine p7_5 C0 hO hS (new_old (n := 14) hna24 (sA_FR (new_old (n := 14) hna21 (sA_FR i19)))) hin9 rfl tb_140 dX7_init_61 (fun H locs hO hS => ?_)
  have h := h _ rfl
  refine lv_aload_n C0.1 C0.2.1 dX7_init_64 rfl (lv_at hl 0 rfl) ?_
  refine lv_bipush (v := 14) C0.1 C0.2.1 dX7_init_65 (by decide) ?_
  refine n_23k (k := 14) C0 hO hS (by decide) (by show _ ≤ 50; omega) (by show _ ≤ 729; omega) dX7_init_67 (fun a27 H hna27 hO hS => ?_)
  have h := h a27 _ hna27 rfl
  refine p7_6 C0 hO hS (new_old (n := 14) hna27 (sA_FR (new_old (n := 14) hna24 (sA_FR (new_old (n := 14) hna21 (sA_FR i19)))))) hin9 rfl tb_141 dX7_init_69 (fun H locs hO hS => ?_)
  have h := h _ rfl
  refine lv_aload_n C0.1 C0.2.1 dX7_init_72 rfl (lv_at hl 0 rfl) ?_
  refine lv_bipush (v := 14) C0.1 C0.2.1 dX7_init_73 (by decide) ?_
  refine n_23k (k := 14) C0 hO hS (by decide) (by show _ ≤ 50; omega) (by show _ ≤ 729; omega) dX7_init_75 (fun a30 H hna30 hO hS => ?_)
  have h := h a30 _ hna30 rfl
  refine p7_7 C0 hO hS (new_old (n := 14) hna30 (sA_FR (new_old (n := 14) hna27 (sA_FR (new_old (n := 14) hna24 (sA_FR (new_old (n := 14) hna21 (sA_FR i19)))))))) hin9 rfl tb_142 dX7_init_77 (fun H locs hO hS => ?_)
  have h := h _ rfl
  refine lv_aload_n C0.1 C0.2.1 dX7_init_80 rfl (lv_at hl 0 rfl) ?_
  refine n_4 C0 hO hS tb_86 tb_87 tb_31 (by show _ ≤ 50; omega) (by show _ ≤ 729; omega) dX7_init_81 (fun a33 H hna33 hO hS => ?_)
  have h := h a33 _ hna33 rfl
  refine lv_dup C0.1 C0.2.1 dX7_init_84 rfl ?_
  refine lv_bipush (v := 14) C0.1 C0.2.1 dX7_init_85 (by decide) ?_
  refine c_I C0 hO hS (mX4_init h) tb_88 tb_89 tb_31 tb_90 rfl hd_X4_init rfl ⟨⟨by decide, by decide⟩, by show _ + 2 ≤ 50; omega, by show _ + 48 ≤ 729; omega⟩ hl.1 rfl (Nat.le_of_ble_eq_true rfl) dX7_init_87 (kV (fun S35 H locs h hO hS => ?_))
  change W _ _ _ _ _ _ _ _ _ _ _ _ (_ + 2) (_ + 48) _ _
  obtain ⟨i36, h⟩ := h
  refine p7_8 C0 hO hS i36 hin9 rfl tb_143 dX7_init_90 (fun H locs hO hS => ?_)
  have h := h _ rfl
  refine lv_aload_n C0.1 C0.2.1 dX7_init_93 rfl (lv_at hl 0 rfl) ?_
  refine n_4 C0 hO hS tb_86 tb_87 tb_31 (by show _ ≤ 50; omega) (by show _ ≤ 729; omega) dX7_init_94 (fun a38 H hna38 hO hS => ?_)
  have h := h a38 _ hna38 rfl
  refine lv_dup C0.1 C0.2.1 dX7_init_97 rfl ?_
  refine lv_bipush (v := 16) C0.1 C0.2.1 dX7_init_98 (by decide) ?_
  refine c_I C0 hO hS (mX4_init h) tb_88 tb_89 tb_31 tb_90 rfl hd_X4_init rfl ⟨⟨by decide, by decide⟩, by show _ + 2 ≤ 50; omega, by show _ + 48 ≤ 729; omega⟩ hl.1 rfl (Nat.le_of_ble_eq_true rfl) dX7_init_100 (kV (fun S40 H locs h hO hS => ?_))
  change W _ _ _ _ _ _ _ _ _ _ _ _ (_ + 2) (_ + 48) _ _
  obtain ⟨i41, h⟩ := h
  refine p7_9 C0 hO hS i41 hin9 rfl tb_144 dX7_init_103 (fun H locs hO hS => ?_)
  have h := h _ rfl
  refine lv_aload_n C0.1 C0.2.1 dX7_init_106 rfl (lv_at hl 0 rfl) ?_
  refine n_6 C0 hO hS tb_105 tb_106 tb_33 (by show _ ≤ 50; omega) (by show _ ≤ 729; omega) dX7_init_107 (fun a43 H hna43 hO hS => ?_)
  have h := h a43 _ hna43 rfl
  refine lv_dup C0.1 C0.2.1 dX7_init_110 rfl ?_
  refine c_IN C0 hO hS (mX6_init h) tb_108 tb_33 tb_109 hd_X6_init rfl ⟨⟨by decide, by decide⟩, by show _ + 11 ≤ 50; omega, by show _ + 182 ≤ 729; omega⟩ hl.1 rfl (Nat.le_of_ble_eq_true rfl) dX7_init_111 (kV (fun S45 H locs h hO hS => ?_))
  change W _ _ _ _ _ _ _ _ _ _ _ _ (_ + 11) (_ + 182) _ _
  obtain ⟨i46, h⟩ := h
  refine p7_10 C0 hO hS i46 hin9 rfl tb_145 dX7_init_114 (fun H locs hO hS => ?_)
  have h := h _ rfl
  refine lv_aload_n C0.1 C0.2.1 dX7_init_117 rfl (lv_at hl 0 rfl) ?_
  refine n_6 C0 hO hS tb_105 tb_106 tb_33 (by show _ ≤ 50; omega) (by show _ ≤ 729; omega) dX7_init_118 (fun a48 H hna48 hO hS => ?_)
  have h := h a48 _ hna48 rfl
  refine lv_dup C0.1 C0.2.1 dX7_init_121 rfl ?_
  refine c_IN C0 hO hS (mX6_init h) tb_108 tb_33 tb_109 hd_X6_init rfl ⟨⟨by decide, by decide⟩, by show _ + 11 ≤ 50; omega, by show _ + 182 ≤ 729; omega⟩ hl.1 rfl (Nat.le_of_ble_eq_true rfl) dX7_init_122 (kV (fun S50 H locs h hO hS => ?_))
  change W _ _ _ _ _ _ _ _ _ _ _ _ (_ + 11) (_ + 182) _ _
  obtain ⟨i51, h⟩ := h
  refine p7_11 C0 hO hS i51 hin9 rfl tb_146 dX7_init_125 (fun H locs hO hS => ?_)
  have h := h _ rfl
  refine lv_aload_n C0.1 C0.2.1 dX7_init_128 rfl (lv_at hl 0 rfl) ?_
  refine n_6 C0 hO hS tb_105 tb_106 tb_33 (by show _ ≤ 50; omega) (by show _ ≤ 729; omega) dX7_init_129 (fun a53 H hna53 hO hS => ?_)
  have h := h a53 _ hna53 rfl
  refine lv_dup C0.1 C0.2.1 dX7_init_132 rfl ?_
  refine c_IN C0 hO hS (mX6_init h) tb_108 tb_33 tb_109 hd_X6_init rfl ⟨⟨by decide, by decide⟩, by show _ + 11 ≤ 50; omega, by show _ + 182 ≤ 729; omega⟩ hl.1 rfl (Nat.le_of_ble_eq_true rfl) dX7_init_133 (kV (fun S55 H locs h hO hS => ?_))
  change W _ _ _ _ _ _ _ _ _ _ _ _ (_ + 11) (_ + 182) _ _
  obtain ⟨i56, h⟩ := h
  refine p7_12 C0 hO hS i56 hin9 rfl tb_147 dX7_init_136 (fun H locs hO hS => ?_)
  have h := h _ rfl
  refine lv_aload_n C0.1 C0.2.1 dX7_init_139 rfl (lv_at hl 0 rfl) ?_
  refine lv_iconst (v := (-1)) C0.1 C0.2.1 dX7_init_140 (by decide) ?_
  refine p7_14 C0 hO hS (sA_FR i56) tb_149 dX7_init_141 (fun H locs hO hS => ?_)
  have h := h _ rfl
  refine lv_aload_n C0.1 C0.2.1 dX7_init_144 rfl (lv_at hl 0 rfl) ?_
  obtain ⟨a59, ea59, h⟩ := h
  refine g7_4 C0 hO (sA_FI (sA_FR i56)) ea59 tb_139 dX7_init_145 ?_
  refine lv_iconst (v := (-1)) C0.1 C0.2.1 dX7_init_148 (by decide) ?_
  refine c_S C0 hO hS (mJ7_fill_53178 h) tb_132 tb_133 tb_32 tb_134 hd_J7_fill_53178 rfl ⟨⟨by decide, by decide⟩, by show _ + 0 ≤ 50; omega, by show _ + 0 ≤ 729; omega⟩ hl.1 rfl (Nat.le_of_ble_eq_true rfl) dX7_init_149 (kV (fun S60 H locs h hO hS => ?_))
  change W _ _ _ _ _ _ _ _ _ _ _ _ (_ + 0) (_ + 0) _ _
  exact e_V C0 Y hO hS h (by show _ ≤ 50; omega) (by show _ ≤ 729; omega) dX7_init_152
def wX7_init (S : Hp) (x0 : Nat) (Φ : Hp → Prop) : Prop := wX7_init_b0 x0 Φ S
set_option maxRecDepth 100000 in
theorem mX7_init {l : Launch} {G : Gw} {S : Hp} {x0 : Nat} {Φ : Hp → Prop} (h : wX7_init S x0 Φ) : gM l yX7_init cX7_init 1 none rm_X7_init [.ref x0] G S (PV Φ) := by
  unfold gM
  refine Met.ofW (cc := cX7_init) (maxL := 1) (ret := none) (by decide) rfl ?_
  intro p e s m args below meth c s₁ B hml hv
  obtain ⟨rfl, hw⟩ := hv
  obtain ⟨C0, Y, hO⟩ := mx_of B hml hw
  have hS : va_S (Ab G.b) s.heap s.heap [] := va_S.rf
  have hin9 : meth.name = "<init>" := (name_of_methodNamed B.named B.method).1
  have hl := lv_entry ([.ref x0]) (n := 1) (Nat.le_of_ble_eq_true rfl)
  rw [lg_entry_eq]
  generalize (lg_sl ([.ref x0]) ++ List.replicate (1 - (lg_sl ([.ref x0])).length) Slot.unset).toArray = ls at hl ⊢
  have hl : lv_has ls 1 [(0, .ref x0)] := hl
  exact bX7_init_b0 C0 Y hin9 S _ _ _ 0 0 h hO hS hl (by decide) (by decide)

def rm_X7_shaft : Room := { frames := 6, cells := 1, slots := 6, locals := 90 }
def wX7_shaft_b0 (x0 : Nat) (Φ : Hp → Int32 → Prop) (Ψ : Hp → String → Prop) (S : Hp) : Prop := isA S x0 7 ∧ (((S.FI 461 x0) < 14 → ∀ S3, S3 = S.setFI 461 x0 ((S.FI 461 x0) + 1) → Φ S3 ((S3.FI 461 x0) - 1)) ∧ (¬ ((S.FI 461 x0) < 14) → Ψ S "java/lang/IllegalStateException"))
set_option maxHeartbeats 4000000 in
set_option maxRecDepth 100000 in
theorem bX7_shaft_b0 {p : Program} {l : Launch} {e : Env} {s : State} {m : MethodId} {args : Array Value} {below : List Frame} {meth : Method} {c : Code} {G : Gw} {x0 : Nat} {Φ : Hp → Int32 → Prop} {Ψ : Hp → String → Prop} (C0 : Mx p s m c cX7_shaft 1 args yX7_shaft.cls G) (Y : My meth (some .int)) (hl9 : l.stackTraces = false) (hx9 : ∀ x ∈ c.exceptionTable.toList, False)  : ∀ (S : Hp) (H : Heap) (locs : List Loc) (ls : Array Slot) (cells slots : Nat), wX7_shaft_b0 x0 Φ Ψ S → Ok G S H → va_S (Ab G.b) s.heap H locs → lv_has ls 1 [(0, .ref x0)] → cells + (1) ≤ 1 → slots + (6) ≤ 6 → W p l e rm_X7_shaft s m args below meth c H locs cells slots (vx_MQ below (gQ G (PI Φ)) (gX G Ψ) args s rm_X7_shaft.cells rm_X7_shaft.slots (Ab G.b)) (F0 m 0 ls []) := by
  intro S H locs ls cells slots h hO hS hl hcc hss
  unfold wX7_shaft_b0 at h
  refine lv_aload_n C0.1 C0.2.1 dX7_shaft_0 rfl (lv_at hl 0 rfl) ?_
  obtain ⟨i1, h⟩ := h
  refine g7_13 C0 hO i1 tb_148 dX7_shaft_1 ?_
  refine lv_bipush (v := 14) C0.1 C0.2.1 dX7_shaft_4 (by decide) ?_
  refine lv_icmp_lt (tgt := 19) C0.1 C0.2.1 dX7_shaft_6 (by decide) (fun c2 => ?_) (fun c2 => ?_)
  · have h := h.1 c2
    refine lv_aload_n C0.1 C0.2.1 dX7_shaft_19 rfl (lv_at hl 0 rfl) ?_
    refine lv_dup C0.1 C0.2.1 dX7_shaft_20 rfl ?_
    refine g7_13 C0 hO i1 tb_148 dX7_shaft_21 ?_
    refine lv_iconst (v := 1) C0.1 C0.2.1 dX7_shaft_24 (by decide) ?_
    refine lv_iadd C0.1 C0.2.1 dX7_shaft_25 ?_
    refine p7_13 C0 hO hS i1 tb_148 dX7_shaft_26 (fun H locs hO hS => ?_)
    have h := h _ rfl
    refine lv_aload_n C0.1 C0.2.1 dX7_shaft_29 rfl (lv_at hl 0 rfl) ?_
    refine g7_13 C0 hO (sA_FI i1) tb_148 dX7_shaft_30 ?_
    refine lv_iconst (v := 1) C0.1 C0.2.1 dX7_shaft_33 (by decide) ?_
    refine lv_isub C0.1 C0.2.1 dX7_shaft_34 ?_
    refine vx_ret ?_
    exact e_I C0 Y hO hS h (by show _ ≤ 1; omega) (by show _ ≤ 6; omega) dX7_shaft_35
  · have h := h.2 c2
    exact t_S (text := "there are 14 shafts") (names := xnm) C0 hl9 Y.2 hx9 hO hS xf_IllegalStateException xnm_ok tb_500 tb_47 (by decide +kernel) xat_81 xgd_8100077 hl.1 h dX7_shaft_9 dX7_shaft_12 dX7_shaft_13 dX7_shaft_15 dX7_shaft_18 (Nat.le_of_ble_eq_true rfl) (Nat.le_of_ble_eq_true rfl) (by show _ ≤ 1; omega) (by show _ ≤ 6; omega) (by show _ ≤ 1; omega) (by show _ ≤ 6; omega)
def wX7_shaft (S : Hp) (x0 : Nat) (Φ : Hp → Int32 → Prop) (Ψ : Hp → String → Prop) : Prop := wX7_shaft_b0 x0 Φ Ψ S
set_option maxRecDepth 100000 in
theorem mX7_shaft {l : Launch} {G : Gw} (hl9 : l.stackTraces = false) {S : Hp} {x0 : Nat} {Φ : Hp → Int32 → Prop} {Ψ : Hp → String → Prop} (h : wX7_shaft S x0 Φ Ψ) : gT l yX7_shaft cX7_shaft 1 (some .int) rm_X7_shaft [.ref x0] G S (PI Φ) Ψ := by
  unfold gT
  refine vx_ofW (cc := cX7_shaft) (maxL := 1) (ret := (some .int)) (by decide) rfl ?_
  intro p e s m args below meth c s₁ B hml hx9 hv
  obtain ⟨rfl, hw⟩ := hv
  obtain ⟨C0, Y, hO⟩ := mx_of B hml hw
  have hS : va_S (Ab G.b) s.heap s.heap [] := va_S.rf
  have hl := lv_entry ([.ref x0]) (n := 1) (Nat.le_of_ble_eq_true rfl)
  rw [lg_entry_eq]
  generalize (lg_sl ([.ref x0]) ++ List.replicate (1 - (lg_sl ([.ref x0])).length) Slot.unset).toArray = ls at hl ⊢
  have hl : lv_has ls 1 [(0, .ref x0)] := hl
  exact bX7_shaft_b0 C0 Y hl9 hx9 S _ _ _ 0 0 h hO hS hl (by decide) (by decide)

def rm_X7_checkShaft : Room := { frames := 6, cells := 1, slots := 6, locals := 90 }
def wX7_checkShaft_b12 (x0 : Nat) (x1 : Int32) (Φ : Hp → Prop) (Ψ : Hp → String → Prop) (S : Hp) : Prop := Ψ S "java/lang/IndexOutOfBoundsException"
set_option maxHeartbeats 4000000 in
set_option maxRecDepth 100000 in
theorem bX7_checkShaft_b12 {p : Program} {l : Launch} {e : Env} {s : State} {m : MethodId} {args : Array Value} {below : List Frame} {meth : Method} {c : Code} {G : Gw} {x0 : Nat} {x1 : Int32} {Φ : Hp → Prop} {Ψ : Hp → String → Prop} (C0 : Mx p s m c cX7_checkShaft 2 args yX7_checkShaft.cls G) (Y : My meth none) (hl9 : l.stackTraces = false) (hx9 : ∀ x ∈ c.exceptionTable.toList, False)  : ∀ (S : Hp) (H : Heap) (locs : List Loc) (ls : Array Slot) (cells slots : Nat), wX7_checkShaft_b12 x0 x1 Φ Ψ S → Ok G S H → va_S (Ab G.b) s.heap H locs → lv_has ls 2 [(0, .ref x0), (1, .int x1)] → cells + (1) ≤ 1 → slots + (6) ≤ 6 → W p l e rm_X7_checkShaft s m args below meth c H locs cells slots (vx_MQ below (gQ G (PV Φ)) (gX G Ψ) args s rm_X7_checkShaft.cells rm_X7_checkShaft.slots (Ab G.b)) (F0 m 12 ls []) := by
  intro S H locs ls cells slots h hO hS hl hcc hss
  unfold wX7_checkShaft_b12 at h
  exact t_W (text := "no such shaft") (names := xnm) C0 hl9 Y.2 hx9 hO hS xf_IndexOutOfBoundsException xnm_ok tb_208 tb_37 (by decide +kernel) xat_368 xgd_36800364 hl.1 h dX7_checkShaft_12 dX7_checkShaft_15 dX7_checkShaft_16 dX7_checkShaft_19 dX7_checkShaft_22 (Nat.le_of_ble_eq_true rfl) (Nat.le_of_ble_eq_true rfl) (by show _ ≤ 1; omega) (by show _ ≤ 6; omega) (by show _ ≤ 1; omega) (by show _ ≤ 6; omega)
def wX7_checkShaft_b0 (x0 : Nat) (x1 : Int32) (Φ : Hp → Prop) (Ψ : Hp → String → Prop) (S : Hp) : Prop := ((x1 < 0 → wX7_checkShaft_b12 x0 x1 Φ Ψ S) ∧ (¬ (x1 < 0) → isA S x0 7 ∧ ((x1 < (S.FI 461 x0) → Φ S) ∧ (¬ (x1 < (S.FI 461 x0)) → wX7_checkShaft_b12 x0 x1 Φ Ψ S))))
set_option maxHeartbeats 4000000 in
set_option maxRecDepth 100000 in
theorem bX7_checkShaft_b0 {p : Program} {l : Launch} {e : Env} {s : State} {m : MethodId} {args : Array Value} {below : List Frame} {meth : Method} {c : Code} {G : Gw} {x0 : Nat} {x1 : Int32} {Φ : Hp → Prop} {Ψ : Hp → String → Prop} (C0 : Mx p s m c cX7_checkShaft 2 args yX7_checkShaft.cls G) (Y : My meth none) (hl9 : l.stackTraces = false) (hx9 : ∀ x ∈ c.exceptionTable.toList, False)  : ∀ (S : Hp) (H : Heap) (locs : List Loc) (ls : Array Slot) (cells slots : Nat), wX7_checkShaft_b0 x0 x1 Φ Ψ S → Ok G S H → va_S (Ab G.b) s.heap H locs → lv_has ls 2 [(0, .ref x0), (1, .int x1)] → cells + (1) ≤ 1 → slots + (6) ≤ 6 → W p l e rm_X7_checkShaft s m args below meth c H locs cells slots (vx_MQ below (gQ G (PV Φ)) (gX G Ψ) args s rm_X7_checkShaft.cells rm_X7_checkShaft.slots (Ab G.b)) (F0 m 0 ls []) := by
  intro S H locs ls cells slots h hO hS hl hcc hss
  unfold wX7_checkShaft_b0 at h
  refine lv_iload_n C0.1 C0.2.1 dX7_checkShaft_0 rfl (lv_at hl 1 rfl) ?_
  refine lv_if_lt (tgt := 12) C0.1 C0.2.1 dX7_checkShaft_1 (by decide) (fun c1 => ?_) (fun c1 => ?_)
  · have h := h.1 c1
    exact bX7_checkShaft_b12 C0 Y hl9 hx9 _ _ _ _ _ _ h hO hS (lv_sub hl [0, 1] rfl) (by omega) (by omega)
  · have h := h.2 c1
    refine lv_iload_n C0.1 C0.2.1 dX7_checkShaft_4 rfl (lv_at hl 1 rfl) ?_
    refine lv_aload_n C0.1 C0.2.1 dX7_checkShaft_5 rfl (lv_at hl 0 rfl) ?_
    obtain ⟨i2, h⟩ := h
    refine g7_13 C0 hO i2 tb_148 dX7_checkShaft_6 ?_
    refine lv_icmp_lt (tgt := 23) C0.1 C0.2.1 dX7_checkShaft_9 (by decide) (fun c3 => ?_) (fun c3 => ?_)
    · have h := h.1 c3
      refine vx_ret ?_
      exact e_V C0 Y hO hS h (by show _ ≤ 1; omega) (by show _ ≤ 6; omega) dX7_checkShaft_23
    · have h := h.2 c3
      exact bX7_checkShaft_b12 C0 Y hl9 hx9 _ _ _ _ _ _ h hO hS (lv_sub hl [0, 1] rfl) (by omega) (by omega)
def wX7_checkShaft (S : Hp) (x0 : Nat) (x1 : Int32) (Φ : Hp → Prop) (Ψ : Hp → String → Prop) : Prop := wX7_checkShaft_b0 x0 x1 Φ Ψ S
set_option maxRecDepth 100000 in
theorem mX7_checkShaft {l : Launch} {G : Gw} (hl9 : l.stackTraces = false) {S : Hp} {x0 : Nat} {x1 : Int32} {Φ : Hp → Prop} {Ψ : Hp → String → Prop} (h : wX7_checkShaft S x0 x1 Φ Ψ) : gT l yX7_checkShaft cX7_checkShaft 2 none rm_X7_checkShaft [.ref x0, .int x1] G S (PV Φ) Ψ := by
  unfold gT
  refine vx_ofW (cc := cX7_checkShaft) (maxL := 2) (ret := none) (by decide) rfl ?_
  intro p e s m args below meth c s₁ B hml hx9 hv
  obtain ⟨rfl, hw⟩ := hv
  obtain ⟨C0, Y, hO⟩ := mx_of B hml hw
  have hS : va_S (Ab G.b) s.heap s.heap [] := va_S.rf
  have hl := lv_entry ([.ref x0, .int x1]) (n := 2) (Nat.le_of_ble_eq_true rfl)
  rw [lg_entry_eq]
  generalize (lg_sl ([.ref x0, .int x1]) ++ List.replicate (2 - (lg_sl ([.ref x0, .int x1])).length) Slot.unset).toArray = ls at hl ⊢
  have hl : lv_has ls 2 [(0, .ref x0), (1, .int x1)] := hl
  exact bX7_checkShaft_b0 C0 Y hl9 hx9 S _ _ _ 0 0 h hO hS hl (by decide) (by decide)

def rm_X7_isWithin : Room := { frames := 0, cells := 0, slots := 0, locals := 0 }
def wX7_isWithin_b0 (x0 : Int32) (x1 : Int32) (x2 : Int32) (Φ : Hp → Int32 → Prop) (S : Hp) : Prop := ((x0 < x1 → Φ S 0) ∧ (¬ (x0 < x1) → ((x2 < x0 → Φ S 0) ∧ (¬ (x2 < x0) → Φ S 1))))
set_option maxHeartbeats 4000000 in
set_option maxRecDepth 100000 in
theorem bX7_isWithin_b0 {p : Program} {l : Launch} {e : Env} {s : State} {m : MethodId} {args : Array Value} {below : List Frame} {meth : Method} {c : Code} {G : Gw} {x0 : Int32} {x1 : Int32} {x2 : Int32} {Φ : Hp → Int32 → Prop} (C0 : Mx p s m c cX7_isWithin 3 args yX7_isWithin.cls G) (Y : My meth (some .boolean))  : ∀ (S : Hp) (H : Heap) (locs : List Loc) (ls : Array Slot), wX7_isWithin_b0 x0 x1 x2 Φ S → Ok G S H → va_S (Ab G.b) s.heap H locs → lv_has ls 3 [(0, .int x0), (1, .int x1), (2, .int x2)] → W p l e rm_X7_isWithin s m args below meth c H locs 0 0 (MQ below (gQ G (PI Φ)) args s rm_X7_isWithin.cells rm_X7_isWithin.slots (Ab G.b)) (F0 m 0 ls []) := by
  intro S H locs ls h hO hS hl
  unfold wX7_isWithin_b0 at h
  refine lv_iload_n C0.1 C0.2.1 dX7_isWithin_0 rfl (lv_at hl 0 rfl) ?_
  refine lv_iload_n C0.1 C0.2.1 dX7_isWithin_1 rfl (lv_at hl 1 rfl) ?_
  refine lv_icmp_lt (tgt := 14) C0.1 C0.2.1 dX7_isWithin_2 (by decide) (fun c1 => ?_) (fun c1 => ?_)
  · have h := h.1 c1
    refine lv_iconst (v := 0) C0.1 C0.2.1 dX7_isWithin_14 (by decide) ?_
    exact e_Z C0 Y hO hS rfl h (Nat.le_refl _) (Nat.le_refl _) dX7_isWithin_15
  · have h := h.2 c1
    refine lv_iload_n C0.1 C0.2.1 dX7_isWithin_5 rfl (lv_at hl 0 rfl) ?_
    refine lv_iload_n C0.1 C0.2.1 dX7_isWithin_6 rfl (lv_at hl 2 rfl) ?_
    refine lv_icmp_gt (tgt := 14) C0.1 C0.2.1 dX7_isWithin_7 (by decide) (fun c2 => ?_) (fun c2 => ?_)
    · have h := h.1 c2
      refine lv_iconst (v := 0) C0.1 C0.2.1 dX7_isWithin_14 (by decide) ?_
      exact e_Z C0 Y hO hS rfl h (Nat.le_refl _) (Nat.le_refl _) dX7_isWithin_15
    · have h := h.2 c2
      refine lv_iconst (v := 1) C0.1 C0.2.1 dX7_isWithin_10 (by decide) ?_
      refine lv_goto (tgt := 15) C0.1 C0.2.1 dX7_isWithin_11 (by decide) ?_
      exact e_Z C0 Y hO hS rfl h (Nat.le_refl _) (Nat.le_refl _) dX7_isWithin_15
def wX7_isWithin (S : Hp) (x0 : Int32) (x1 : Int32) (x2 : Int32) (Φ : Hp → Int32 → Prop) : Prop := wX7_isWithin_b0 x0 x1 x2 Φ S
set_option maxRecDepth 100000 in
theorem mX7_isWithin {l : Launch} {G : Gw} {S : Hp} {x0 : Int32} {x1 : Int32} {x2 : Int32} {Φ : Hp → Int32 → Prop} (h : wX7_isWithin S x0 x1 x2 Φ) : gM l yX7_isWithin cX7_isWithin 3 (some .boolean) rm_X7_isWithin [.int x0, .int x1, .int x2] G S (PI Φ) := by
  unfold gM
  refine Met.ofW (cc := cX7_isWithin) (maxL := 3) (ret := (some .boolean)) (by decide) rfl ?_
  intro p e s m args below meth c s₁ B hml hv
  obtain ⟨rfl, hw⟩ := hv
  obtain ⟨C0, Y, hO⟩ := mx_of B hml hw
  have hS : va_S (Ab G.b) s.heap s.heap [] := va_S.rf
  have hl := lv_entry ([.int x0, .int x1, .int x2]) (n := 3) (Nat.le_of_ble_eq_true rfl)
  rw [lg_entry_eq]
  generalize (lg_sl ([.int x0, .int x1, .int x2]) ++ List.replicate (3 - (lg_sl ([.int x0, .int x1, .int x2])).length) Slot.unset).toArray = ls at hl ⊢
  have hl : lv_has ls 3 [(0, .int x0), (1, .int x1), (2, .int x2)] := hl
  exact bX7_isWithin_b0 C0 Y S _ _ _ h hO hS hl

def rm_X7_hasMeaning : Room := { frames := 1, cells := 0, slots := 0, locals := 22 }
def wX7_hasMeaning_b12 (x0 : Int32) (x1 : Int32) (x2 : Int32) (Φ : Hp → Int32 → Prop) (S : Hp) : Prop := wX7_isWithin S x1 6 30 (fun S1 r2 => ((r2 = 0 → Φ S1 0) ∧ (¬ (r2 = 0) → wX7_isWithin S1 x2 6 30 (fun S4 r5 => ((r5 = 0 → Φ S4 0) ∧ (¬ (r5 = 0) → Φ S4 1))))))
set_option maxHeartbeats 4000000 in
set_option maxRecDepth 100000 in
theorem bX7_hasMeaning_b12 {p : Program} {l : Launch} {e : Env} {s : State} {m : MethodId} {args : Array Value} {below : List Frame} {meth : Method} {c : Code} {G : Gw} {x0 : Int32} {x1 : Int32} {x2 : Int32} {Φ : Hp → Int32 → Prop} (C0 : Mx p s m c cX7_hasMeaning 3 args yX7_hasMeaning.cls G) (Y : My meth (some .boolean))  : ∀ (S : Hp) (H : Heap) (locs : List Loc) (ls : Array Slot), wX7_hasMeaning_b12 x0 x1 x2 Φ S → Ok G S H → va_S (Ab G.b) s.heap H locs → lv_has ls 3 [(0, .int x0), (1, .int x1), (2, .int x2)] → W p l e rm_X7_hasMeaning s m args below meth c H locs 0 0 (MQ below (gQ G (PI Φ)) args s rm_X7_hasMeaning.cells rm_X7_hasMeaning.slots (Ab G.b)) (F0 m 12 ls []) := by
  intro S H locs ls h hO hS hl
  unfold wX7_hasMeaning_b12 at h
  refine lv_iload_n C0.1 C0.2.1 dX7_hasMeaning_12 rfl (lv_at hl 1 rfl) ?_
  refine lv_bipush (v := 6) C0.1 C0.2.1 dX7_hasMeaning_13 (by decide) ?_
  refine lv_bipush (v := 30) C0.1 C0.2.1 dX7_hasMeaning_15 (by decide) ?_
  refine c_S C0 hO hS (mX7_isWithin h) tb_555 tb_556 tb_27 tb_557 hd_X7_isWithin rfl ⟨⟨by decide, by decide⟩, by decide, by decide⟩ hl.1 rfl (Nat.le_of_ble_eq_true rfl) dX7_hasMeaning_17 (kI (fun r2 S1 H locs h hO hS => ?_))
  refine lv_if_eq (tgt := 38) C0.1 C0.2.1 dX7_hasMeaning_20 (by decide) (fun c3 => ?_) (fun c3 => ?_)
  · have h := h.1 c3
    refine lv_iconst (v := 0) C0.1 C0.2.1 dX7_hasMeaning_38 (by decide) ?_
    exact e_Z C0 Y hO hS rfl h (Nat.le_refl _) (Nat.le_refl _) dX7_hasMeaning_39
  · have h := h.2 c3
    refine lv_iload_n C0.1 C0.2.1 dX7_hasMeaning_23 rfl (lv_at hl 2 rfl) ?_
    refine lv_bipush (v := 6) C0.1 C0.2.1 dX7_hasMeaning_24 (by decide) ?_
    refine lv_bipush (v := 30) C0.1 C0.2.1 dX7_hasMeaning_26 (by decide) ?_
    refine c_S C0 hO hS (mX7_isWithin h) tb_555 tb_556 tb_27 tb_557 hd_X7_isWithin rfl ⟨⟨by decide, by decide⟩, by decide, by decide⟩ hl.1 rfl (Nat.le_of_ble_eq_true rfl) dX7_hasMeaning_28 (kI (fun r5 S4 H locs h hO hS => ?_))
    refine lv_if_eq (tgt := 38) C0.1 C0.2.1 dX7_hasMeaning_31 (by decide) (fun c6 => ?_) (fun c6 => ?_)
    · have h := h.1 c6
      refine lv_iconst (v := 0) C0.1 C0.2.1 dX7_hasMeaning_38 (by decide) ?_
      exact e_Z C0 Y hO hS rfl h (Nat.le_refl _) (Nat.le_refl _) dX7_hasMeaning_39
    · have h := h.2 c6
      refine lv_iconst (v := 1) C0.1 C0.2.1 dX7_hasMeaning_34 (by decide) ?_
      refine lv_goto (tgt := 39) C0.1 C0.2.1 dX7_hasMeaning_35 (by decide) ?_
      exact e_Z C0 Y hO hS rfl h (Nat.le_refl _) (Nat.le_refl _) dX7_hasMeaning_39
def wX7_hasMeaning_b0 (x0 : Int32) (x1 : Int32) (x2 : Int32) (Φ : Hp → Int32 → Prop) (S : Hp) : Prop := ((x0 = 103 → wX7_hasMeaning_b12 x0 x1 x2 Φ S) ∧ (¬ (x0 = 103) → ((¬ x0 = 105 → ((¬ x0 = 118 → ((¬ x0 = 114 → ((¬ x0 = 107 → Φ S 0) ∧ (x0 = 107 → ((¬ x1 = 0 → Φ S 0) ∧ (x1 = 0 → ((¬ x2 = 0 → Φ S 0) ∧ (x2 = 0 → Φ S 1))))))) ∧ (x0 = 114 → wX7_isWithin S x1 3 24 (fun S8 r9 => ((r9 = 0 → Φ S8 0) ∧ (¬ (r9 = 0) → ((¬ x2 = 0 → Φ S8 0) ∧ (x2 = 0 → Φ S8 1)))))))) ∧ (x0 = 118 → wX7_isWithin S x1 3 12 (fun S12 r13 => ((r13 = 0 → Φ S12 0) ∧ (¬ (r13 = 0) → ((¬ x2 = 0 → Φ S12 0) ∧ (x2 = 0 → Φ S12 1)))))))) ∧ (x0 = 105 → wX7_hasMeaning_b12 x0 x1 x2 Φ S))))
set_option maxHeartbeats 4000000 in
set_option maxRecDepth 100000 in
theorem bX7_hasMeaning_b0 {p : Program} {l : Launch} {e : Env} {s : State} {m : MethodId} {args : Array Value} {below : List Frame} {meth : Method} {c : Code} {G : Gw} {x0 : Int32} {x1 : Int32} {x2 : Int32} {Φ : Hp → Int32 → Prop} (C0 : Mx p s m c cX7_hasMeaning 3 args yX7_hasMeaning.cls G) (Y : My meth (some .boolean))  : ∀ (S : Hp) (H : Heap) (locs : List Loc) (ls : Array Slot), wX7_hasMeaning_b0 x0 x1 x2 Φ S → Ok G S H → va_S (Ab G.b) s.heap H locs → lv_has ls 3 [(0, .int x0), (1, .int x1), (2, .int x2)] → W p l e rm_X7_hasMeaning s m args below meth c H locs 0 0 (MQ below (gQ G (PI Φ)) args s rm_X7_hasMeaning.cells rm_X7_hasMeaning.slots (Ab G.b)) (F0 m 0 ls []) := by
  intro S H locs ls h hO hS hl
  unfold wX7_hasMeaning_b0 at h
  refine lv_iload_n C0.1 C0.2.1 dX7_hasMeaning_0 rfl (lv_at hl 0 rfl) ?_
  refine lv_bipush (v := 103) C0.1 C0.2.1 dX7_hasMeaning_1 (by decide) ?_
  refine lv_icmp_eq (tgt := 12) C0.1 C0.2.1 dX7_hasMeaning_3 (by decide) (fun c1 => ?_) (fun c1 => ?_)
  · have h := h.1 c1
    exact bX7_hasMeaning_b12 C0 Y _ _ _ _ h hO hS (lv_sub hl [0, 1, 2] rfl)
  · have h := h.2 c1
    refine lv_iload_n C0.1 C0.2.1 dX7_hasMeaning_6 rfl (lv_at hl 0 rfl) ?_
    refine lv_bipush (v := 105) C0.1 C0.2.1 dX7_hasMeaning_7 (by decide) ?_
    refine lv_icmp_ne (tgt := 40) C0.1 C0.2.1 dX7_hasMeaning_9 (by decide) (fun c2 => ?_) (fun c2 => ?_)
    · have h := h.1 c2
      refine lv_iload_n C0.1 C0.2.1 dX7_hasMeaning_40 rfl (lv_at hl 0 rfl) ?_
      refine lv_bipush (v := 118) C0.1 C0.2.1 dX7_hasMeaning_41 (by decide) ?_
      refine lv_icmp_ne (tgt := 66) C0.1 C0.2.1 dX7_hasMeaning_43 (by decide) (fun c3 => ?_) (fun c3 => ?_)
      · have h := h.1 c3
        refine lv_iload_n C0.1 C0.2.1 dX7_hasMeaning_66 rfl (lv_at hl 0 rfl) ?_
        refine lv_bipush (v := 114) C0.1 C0.2.1 dX7_hasMeaning_67 (by decide) ?_
        refine lv_icmp_ne (tgt := 92) C0.1 C0.2.1 dX7_hasMeaning_69 (by decide) (fun c4 => ?_) (fun c4 => ?_)
        · have h := h.1 c4
          refine lv_iload_n C0.1 C0.2.1 dX7_hasMeaning_92 rfl (lv_at hl 0 rfl) ?_
          refine lv_bipush (v := 107) C0.1 C0.2.1 dX7_hasMeaning_93 (by decide) ?_
          refine lv_icmp_ne (tgt := 110) C0.1 C0.2.1 dX7_hasMeaning_95 (by decide) (fun c5 => ?_) (fun c5 => ?_)
          · have h := h.1 c5
            refine lv_iconst (v := 0) C0.1 C0.2.1 dX7_hasMeaning_110 (by decide) ?_
            exact e_Z C0 Y hO hS rfl h (Nat.le_refl _) (Nat.le_refl _) dX7_hasMeaning_111
          · have h := h.2 c5
            refine lv_iload_n C0.1 C0.2.1 dX7_hasMeaning_98 rfl (lv_at hl 1 rfl) ?_
            refine lv_if_ne (tgt := 110) C0.1 C0.2.1 dX7_hasMeaning_99 (by decide) (fun c6 => ?_) (fun c6 => ?_)
            · have h := h.1 c6
              refine lv_iconst (v := 0) C0.1 C0.2.1 dX7_hasMeaning_110 (by decide) ?_
              exact e_Z C0 Y hO hS rfl h (Nat.le_refl _) (Nat.le_refl _) dX7_hasMeaning_111
            · have h := h.2 c6
              refine lv_iload_n C0.1 C0.2.1 dX7_hasMeaning_102 rfl (lv_at hl 2 rfl) ?_
              refine lv_if_ne (tgt := 110) C0.1 C0.2.1 dX7_hasMeaning_103 (by decide) (fun c7 => ?_) (fun c7 => ?_)
              · have h := h.1 c7
                refine lv_iconst (v := 0) C0.1 C0.2.1 dX7_hasMeaning_110 (by decide) ?_
                exact e_Z C0 Y hO hS rfl h (Nat.le_refl _) (Nat.le_refl _) dX7_hasMeaning_111
              · have h := h.2 c7
                refine lv_iconst (v := 1) C0.1 C0.2.1 dX7_hasMeaning_106 (by decide) ?_
                refine lv_goto (tgt := 111) C0.1 C0.2.1 dX7_hasMeaning_107 (by decide) ?_
                exact e_Z C0 Y hO hS rfl h (Nat.le_refl _) (Nat.le_refl _) dX7_hasMeaning_111
        · have h := h.2 c4
          refine lv_iload_n C0.1 C0.2.1 dX7_hasMeaning_72 rfl (lv_at hl 1 rfl) ?_
          refine lv_iconst (v := 3) C0.1 C0.2.1 dX7_hasMeaning_73 (by decide) ?_
          refine lv_bipush (v := 24) C0.1 C0.2.1 dX7_hasMeaning_74 (by decide) ?_
          refine c_S C0 hO hS (mX7_isWithin h) tb_555 tb_556 tb_27 tb_557 hd_X7_isWithin rfl ⟨⟨by decide, by decide⟩, by decide, by decide⟩ hl.1 rfl (Nat.le_of_ble_eq_true rfl) dX7_hasMeaning_76 (kI (fun r9 S8 H locs h hO hS => ?_))
          refine lv_if_eq (tgt := 90) C0.1 C0.2.1 dX7_hasMeaning_79 (by decide) (fun c10 => ?_) (fun c10 => ?_)
          · have h := h.1 c10
            refine lv_iconst (v := 0) C0.1 C0.2.1 dX7_hasMeaning_90 (by decide) ?_
            exact e_Z C0 Y hO hS rfl h (Nat.le_refl _) (Nat.le_refl _) dX7_hasMeaning_91
          · have h := h.2 c10
            refine lv_iload_n C0.1 C0.2.1 dX7_hasMeaning_82 rfl (lv_at hl 2 rfl) ?_
            refine lv_if_ne (tgt := 90) C0.1 C0.2.1 dX7_hasMeaning_83 (by decide) (fun c11 => ?_) (fun c11 => ?_)
            · have h := h.1 c11
              refine lv_iconst (v := 0) C0.1 C0.2.1 dX7_hasMeaning_90 (by decide) ?_
              exact e_Z C0 Y hO hS rfl h (Nat.le_refl _) (Nat.le_refl _) dX7_hasMeaning_91
            · have h := h.2 c11
              refine lv_iconst (v := 1) C0.1 C0.2.1 dX7_hasMeaning_86 (by decide) ?_
              refine lv_goto (tgt := 91) C0.1 C0.2.1 dX7_hasMeaning_87 (by decide) ?_
              exact e_Z C0 Y hO hS rfl h (Nat.le_refl _) (Nat.le_refl _) dX7_hasMeaning_91
      · have h := h.2 c3
        refine lv_iload_n C0.1 C0.2.1 dX7_hasMeaning_46 rfl (lv_at hl 1 rfl) ?_
        refine lv_iconst (v := 3) C0.1 C0.2.1 dX7_hasMeaning_47 (by decide) ?_
        refine lv_bipush (v := 12) C0.1 C0.2.1 dX7_hasMeaning_48 (by decide) ?_
        refine c_S C0 hO hS (mX7_isWithin h) tb_555 tb_556 tb_27 tb_557 hd_X7_isWithin rfl ⟨⟨by decide, by decide⟩, by decide, by decide⟩ hl.1 rfl (Nat.le_of_ble_eq_true rfl) dX7_hasMeaning_50 (kI (fun r13 S12 H locs h hO hS => ?_))
        refine lv_if_eq (tgt := 64) C0.1 C0.2.1 dX7_hasMeaning_53 (by decide) (fun c14 => ?_) (fun c14 => ?_)
        · have h := h.1 c14
          refine lv_iconst (v := 0) C0.1 C0.2.1 dX7_hasMeaning_64 (by decide) ?_
          exact e_Z C0 Y hO hS rfl h (Nat.le_refl _) (Nat.le_refl _) dX7_hasMeaning_65
        · have h := h.2 c14
          refine lv_iload_n C0.1 C0.2.1 dX7_hasMeaning_56 rfl (lv_at hl 2 rfl) ?_
          refine lv_if_ne (tgt := 64) C0.1 C0.2.1 dX7_hasMeaning_57 (by decide) (fun c15 => ?_) (fun c15 => ?_)
          · have h := h.1 c15
            refine lv_iconst (v := 0) C0.1 C0.2.1 dX7_hasMeaning_64 (by decide) ?_
            exact e_Z C0 Y hO hS rfl h (Nat.le_refl _) (Nat.le_refl _) dX7_hasMeaning_65
          · have h := h.2 c15
            refine lv_iconst (v := 1) C0.1 C0.2.1 dX7_hasMeaning_60 (by decide) ?_
            refine lv_goto (tgt := 65) C0.1 C0.2.1 dX7_hasMeaning_61 (by decide) ?_
            exact e_Z C0 Y hO hS rfl h (Nat.le_refl _) (Nat.le_refl _) dX7_hasMeaning_65
    · have h := h.2 c2
      exact bX7_hasMeaning_b12 C0 Y _ _ _ _ h hO hS (lv_sub hl [0, 1, 2] rfl)
def wX7_hasMeaning (S : Hp) (x0 : Int32) (x1 : Int32) (x2 : Int32) (Φ : Hp → Int32 → Prop) : Prop := wX7_hasMeaning_b0 x0 x1 x2 Φ S
set_option maxRecDepth 100000 in
theorem mX7_hasMeaning {l : Launch} {G : Gw} {S : Hp} {x0 : Int32} {x1 : Int32} {x2 : Int32} {Φ : Hp → Int32 → Prop} (h : wX7_hasMeaning S x0 x1 x2 Φ) : gM l yX7_hasMeaning cX7_hasMeaning 3 (some .boolean) rm_X7_hasMeaning [.int x0, .int x1, .int x2] G S (PI Φ) := by
  unfold gM
  refine Met.ofW (cc := cX7_hasMeaning) (maxL := 3) (ret := (some .boolean)) (by decide) rfl ?_
  intro p e s m args below meth c s₁ B hml hv
  obtain ⟨rfl, hw⟩ := hv
  obtain ⟨C0, Y, hO⟩ := mx_of B hml hw
  have hS : va_S (Ab G.b) s.heap s.heap [] := va_S.rf
  have hl := lv_entry ([.int x0, .int x1, .int x2]) (n := 3) (Nat.le_of_ble_eq_true rfl)
  rw [lg_entry_eq]
  generalize (lg_sl ([.int x0, .int x1, .int x2]) ++ List.replicate (3 - (lg_sl ([.int x0, .int x1, .int x2])).length) Slot.unset).toArray = ls at hl ⊢
  have hl : lv_has ls 3 [(0, .int x0), (1, .int x1), (2, .int x2)] := hl
  exact bX7_hasMeaning_b0 C0 Y S _ _ _ h hO hS hl

def rm_X7_raiseLevel : Room := { frames := 1, cells := 0, slots := 0, locals := 20 }
def wX7_raiseLevel_b31 (x0 : Nat) (x1 : Nat) (Φ : Hp → Prop) (S : Hp) (v2 : Int32) : Prop := isA S x0 7 ∧ ∃ a2, S.FR 453 x0 = some a2 ∧ isA S x1 5 ∧ isA S a2 21 ∧ vp_in (S.FI 324 x1) (S.N a2) ∧ ∀ S6, S6 = S.setAI a2 ((S.FI 324 x1).toNatClampNeg) (v2 + 1) → Φ S6
set_option maxHeartbeats 4000000 in
set_option maxRecDepth 100000 in
theorem bX7_raiseLevel_b31 {p : Program} {l : Launch} {e : Env} {s : State} {m : MethodId} {args : Array Value} {below : List Frame} {meth : Method} {c : Code} {G : Gw} {x0 : Nat} {x1 : Nat} {Φ : Hp → Prop} (C0 : Mx p s m c cX7_raiseLevel 3 args yX7_raiseLevel.cls G) (Y : My meth none)  : ∀ (S : Hp) (v2 : Int32) (H : Heap) (locs : List Loc) (ls : Array Slot), wX7_raiseLevel_b31 x0 x1 Φ S v2 → Ok G S H → va_S (Ab G.b) s.heap H locs → lv_has ls 3 [(0, .ref x0), (1, .ref x1), (2, .int v2)] → W p l e rm_X7_raiseLevel s m args below meth c H locs 0 0 (MQ below (gQ G (PV Φ)) args s rm_X7_raiseLevel.cells rm_X7_raiseLevel.slots (Ab G.b)) (F0 m 31 ls []) := by
  intro S v2 H locs ls h hO hS hl
  unfold wX7_raiseLevel_b31 at h
  refine lv_aload_n C0.1 C0.2.1 dX7_raiseLevel_31 rfl (lv_at hl 0 rfl) ?_
  obtain ⟨i1, h⟩ := h
  obtain ⟨a2, ea2, h⟩ := h
  refine g7_5 C0 hO i1 ea2 tb_140 dX7_raiseLevel_32 ?_
  refine lv_aload_n C0.1 C0.2.1 dX7_raiseLevel_35 rfl (lv_at hl 1 rfl) ?_
  obtain ⟨i3, h⟩ := h
  refine g5_4 C0 hO i3 tb_608 dX7_raiseLevel_36 ?_
  refine lv_iload_n C0.1 C0.2.1 dX7_raiseLevel_39 rfl (lv_at hl 2 rfl) ?_
  refine lv_iconst (v := 1) C0.1 C0.2.1 dX7_raiseLevel_40 (by decide) ?_
  refine lv_iadd C0.1 C0.2.1 dX7_raiseLevel_41 ?_
  obtain ⟨i4, h⟩ := h
  obtain ⟨e5, h⟩ := h
  refine r_iast C0 hO hS i4 e5 dX7_raiseLevel_42 (fun H locs hO hS => ?_)
  have h := h _ rfl
  exact e_V C0 Y hO hS h (Nat.le_refl _) (Nat.le_refl _) dX7_raiseLevel_43
def wX7_raiseLevel_b0 (x0 : Nat) (x1 : Nat) (Φ : Hp → Prop) (S : Hp) : Prop := isA S x0 7 ∧ ∃ a2, S.FR 453 x0 = some a2 ∧ isA S x1 5 ∧ isA S a2 21 ∧ vp_in (S.FI 322 x1) (S.N a2) ∧ wX5_hasSecond S x1 (fun S6 r7 => ((r7 = 0 → wX7_raiseLevel_b31 x0 x1 Φ S6 (S.AI a2 ((S.FI 322 x1).toNatClampNeg))) ∧ (¬ (r7 = 0) → isA S6 x0 7 ∧ ∃ a10, S6.FR 453 x0 = some a10 ∧ isA S6 x1 5 ∧ isA S6 a10 21 ∧ vp_in (S6.FI 323 x1) (S6.N a10) ∧ wX7_raiseLevel_b31 x0 x1 Φ S6 (if (S.AI a2 ((S.FI 322 x1).toNatClampNeg)) < (S6.AI a10 ((S6.FI 323 x1).toNatClampNeg)) then (S6.AI a10 ((S6.FI 323 x1).toNatClampNeg)) else (S.AI a2 ((S.FI 322 x1).toNatClampNeg))))))
set_option maxHeartbeats 4000000 in
set_option maxRecDepth 100000 in
theorem bX7_raiseLevel_b0 {p : Program} {l : Launch} {e : Env} {s : State} {m : MethodId} {args : Array Value} {below : List Frame} {meth : Method} {c : Code} {G : Gw} {x0 : Nat} {x1 : Nat} {Φ : Hp → Prop} (C0 : Mx p s m c cX7_raiseLevel 3 args yX7_raiseLevel.cls G) (Y : My meth none)  : ∀ (S : Hp) (H : Heap) (locs : List Loc) (ls : Array Slot), wX7_raiseLevel_b0 x0 x1 Φ S → Ok G S H → va_S (Ab G.b) s.heap H locs → lv_has ls 3 [(0, .ref x0), (1, .ref x1)] → W p l e rm_X7_raiseLevel s m args below meth c H locs 0 0 (MQ below (gQ G (PV Φ)) args s rm_X7_raiseLevel.cells rm_X7_raiseLevel.slots (Ab G.b)) (F0 m 0 ls []) := by
  intro S H locs ls h hO hS hl
  unfold wX7_raiseLevel_b0 at h
  refine lv_aload_n C0.1 C0.2.1 dX7_raiseLevel_0 rfl (lv_at hl 0 rfl) ?_
  obtain ⟨i1, h⟩ := h
  obtain ⟨a2, ea2, h⟩ := h
  refine g7_5 C0 hO i1 ea2 tb_140 dX7_raiseLevel_1 ?_
  refine lv_aload_n C0.1 C0.2.1 dX7_raiseLevel_4 rfl (lv_at hl 1 rfl) ?_
  obtain ⟨i3, h⟩ := h
  refine g5_2 C0 hO i3 tb_602 dX7_raiseLevel_5 ?_
  obtain ⟨i4, h⟩ := h
  obtain ⟨e5, h⟩ := h
  refine r_iald C0 hO i4 e5 dX7_raiseLevel_8 ?_
  refine lv_istore_n C0.1 C0.2.1 dX7_raiseLevel_9 rfl hl (by decide) rfl (fun ls hl => ?_)
  refine lv_aload_n C0.1 C0.2.1 dX7_raiseLevel_10 rfl (lv_at hl 2 rfl) ?_
  refine c_V C0 hO hS (mX5_hasSecond h) i3 (by decide) rfl rfl tb_447 tb_420 tb_421 tb_48 tb_422 hd_X5_hasSecond rfl ⟨⟨by decide, by decide⟩, by decide, by decide⟩ hl.1 rfl (Nat.le_of_ble_eq_true rfl) dX7_raiseLevel_11 (kI (fun r7 S6 H locs h hO hS => ?_))
  refine lv_if_eq (tgt := 31) C0.1 C0.2.1 dX7_raiseLevel_14 (by decide) (fun c8 => ?_) (fun c8 => ?_)
  · have h := h.1 c8
    exact bX7_raiseLevel_b31 C0 Y _ _ _ _ _ h hO hS (lv_sub hl [1, 2, 0] rfl)
  · have h := h.2 c8
    refine lv_iload_n C0.1 C0.2.1 dX7_raiseLevel_17 rfl (lv_at hl 0 rfl) ?_
    refine lv_aload_n C0.1 C0.2.1 dX7_raiseLevel_18 rfl (lv_at hl 1 rfl) ?_
    obtain ⟨i9, h⟩ := h
    obtain ⟨a10, ea10, h⟩ := h
    refine g7_5 C0 hO i9 ea10 tb_140 dX7_raiseLevel_19 ?_
    refine lv_aload_n C0.1 C0.2.1 dX7_raiseLevel_22 rfl (lv_at hl 2 rfl) ?_
    obtain ⟨i11, h⟩ := h
    refine g5_3 C0 hO i11 tb_605 dX7_raiseLevel_23 ?_
    obtain ⟨i12, h⟩ := h
    obtain ⟨e13, h⟩ := h
    refine r_iald C0 hO i12 e13 dX7_raiseLevel_26 ?_
    refine va_mmax C0.1 C0.2.1 (C0.2.2.1.trans hl.1.symm) C0.2.2.2.1 (C0.2.2.2.2.1 _ tb_448) (C0.2.2.2.2.1 _ tb_449) (C0.2.2.2.2.1 _ tb_42) (C0.2.2.2.2.1 _ tb_450) (Nat.le_of_ble_eq_true rfl) (Nat.le_of_ble_eq_true rfl) (by decide) (by decide) dX7_raiseLevel_27 ?_
    refine lv_istore_n C0.1 C0.2.1 dX7_raiseLevel_30 rfl hl (by decide) rfl (fun ls hl => ?_)
    exact bX7_raiseLevel_b31 C0 Y _ _ _ _ _ h hO hS (lv_sub hl [1, 2, 0] rfl)
def wX7_raiseLevel (S : Hp) (x0 : Nat) (x1 : Nat) (Φ : Hp → Prop) : Prop := wX7_raiseLevel_b0 x0 x1 Φ S
set_option maxRecDepth 100000 in
theorem mX7_raiseLevel {l : Launch} {G : Gw} {S : Hp} {x0 : Nat} {x1 : Nat} {Φ : Hp → Prop} (h : wX7_raiseLevel S x0 x1 Φ) : gM l yX7_raiseLevel cX7_raiseLevel 3 none rm_X7_raiseLevel [.ref x0, .ref x1] G S (PV Φ) := by
  unfold gM
  refine Met.ofW (cc := cX7_raiseLevel) (maxL := 3) (ret := none) (by decide) rfl ?_
  intro p e s m args below meth c s₁ B hml hv
  obtain ⟨rfl, hw⟩ := hv
  obtain ⟨C0, Y, hO⟩ := mx_of B hml hw
  have hS : va_S (Ab G.b) s.heap s.heap [] := va_S.rf
  have hl := lv_entry ([.ref x0, .ref x1]) (n := 3) (Nat.le_of_ble_eq_true rfl)
  rw [lg_entry_eq]
  generalize (lg_sl ([.ref x0, .ref x1]) ++ List.replicate (3 - (lg_sl ([.ref x0, .ref x1])).length) Slot.unset).toArray = ls at hl ⊢
  have hl : lv_has ls 3 [(0, .ref x0), (1, .ref x1)] := hl
  exact bX7_raiseLevel_b0 C0 Y S _ _ _ h hO hS hl

def rm_X7_areLevelsFit : Room := { frames := 3, cells := 0, slots := 0, locals := 64 }
def wX7_areLevelsFit_n_b58 (x0 : Nat) (Φ : Hp → Int32 → Prop) (k10 : Hp → Int32 → Prop) (S : Hp) (v2 : Int32) : Prop := k10 S (v2 + 1)
set_option maxHeartbeats 4000000 in
set_option maxRecDepth 100000 in
theorem bX7_areLevelsFit_n_b58 {p : Program} {l : Launch} {e : Env} {s : State} {m : MethodId} {args : Array Value} {below : List Frame} {meth : Method} {c : Code} {G : Gw} {x0 : Nat} {Φ : Hp → Int32 → Prop} (C0 : Mx p s m c cX7_areLevelsFit 4 args yX7_areLevelsFit.cls G) (Y : My meth (some .boolean)) {k10 : Hp → Int32 → Prop} (hk10 : ∀ (S : Hp) (v2 : Int32) (H : Heap) (locs : List Loc) (ls : Array Slot), k10 S v2 → Ok G S H → va_S (Ab G.b) s.heap H locs → lv_has ls 4 [(0, .ref x0), (1, .null), (2, .int v2)] → W p l e rm_X7_areLevelsFit s m args below meth c H locs 0 0 (MQ below (gQ G (PI Φ)) args s rm_X7_areLevelsFit.cells rm_X7_areLevelsFit.slots (Ab G.b)) (F0 m 10 ls [])) : ∀ (S : Hp) (v2 : Int32) (H : Heap) (locs : List Loc) (ls : Array Slot), wX7_areLevelsFit_n_b58 x0 Φ k10 S v2 → Ok G S H → va_S (Ab G.b) s.heap H locs → lv_has ls 4 [(0, .ref x0), (1, .null), (2, .int v2)] → W p l e rm_X7_areLevelsFit s m args below meth c H locs 0 0 (MQ below (gQ G (PI Φ)) args s rm_X7_areLevelsFit.cells rm_X7_areLevelsFit.slots (Ab G.b)) (F0 m 58 ls []) := by
  intro S v2 H locs ls h hO hS hl
  unfold wX7_areLevelsFit_n_b58 at h
  refine lv_iinc (v := _ + 1) C0.1 C0.2.1 dX7_areLevelsFit_58 hl (k := 2) rfl rfl (by decide) rfl (fun ls hl => ?_)
  refine lv_goto (tgt := 10) C0.1 C0.2.1 dX7_areLevelsFit_61 (by decide) ?_
  exact hk10 _ _ _ _ _ h hO hS (lv_sub hl [1, 2, 0] rfl)
def wX7_areLevelsFit_n_b17 (x0 : Nat) (Φ : Hp → Int32 → Prop) (k10 : Hp → Int32 → Prop) (k17 : Hp → Int32 → Int32 → Prop) (S : Hp) (v2 : Int32) (v3 : Int32) : Prop := isA S x0 7 ∧ ∃ a2, S.FR 448 x0 = some a2 ∧ isA S a2 9 ∧ wJx4a65c_size_8abf5 S a2 (fun S3 r4 => ((r4 ≤ v3 → wX7_areLevelsFit_n_b58 x0 Φ k10 S3 v2) ∧ (¬ (r4 ≤ v3) → isA S3 x0 7 ∧ ∃ a8, S3.FR 448 x0 = some a8 ∧ isA S3 a8 9 ∧ wJx4a65c_get_915e3 S3 a8 v3 (fun S9 r10 => ∃ a12, r10 = some a12 ∧ isA S9 a12 5 ∧ isA S9 x0 7 ∧ wX7_raiseLevel S9 x0 a12 (fun S14 => k17 S14 v2 (v3 + 1))))))
set_option maxHeartbeats 4000000 in
set_option maxRecDepth 100000 in
theorem bX7_areLevelsFit_n_b17 {p : Program} {l : Launch} {e : Env} {s : State} {m : MethodId} {args : Array Value} {below : List Frame} {meth : Method} {c : Code} {G : Gw} {x0 : Nat} {Φ : Hp → Int32 → Prop} (C0 : Mx p s m c cX7_areLevelsFit 4 args yX7_areLevelsFit.cls G) (Y : My meth (some .boolean)) {k10 : Hp → Int32 → Prop} (hk10 : ∀ (S : Hp) (v2 : Int32) (H : Heap) (locs : List Loc) (ls : Array Slot), k10 S v2 → Ok G S H → va_S (Ab G.b) s.heap H locs → lv_has ls 4 [(0, .ref x0), (1, .null), (2, .int v2)] → W p l e rm_X7_areLevelsFit s m args below meth c H locs 0 0 (MQ below (gQ G (PI Φ)) args s rm_X7_areLevelsFit.cells rm_X7_areLevelsFit.slots (Ab G.b)) (F0 m 10 ls [])) {k17 : Hp → Int32 → Int32 → Prop} (hk17 : ∀ (S : Hp) (v2 : Int32) (v3 : Int32) (H : Heap) (locs : List Loc) (ls : Array Slot), k17 S v2 v3 → Ok G S H → va_S (Ab G.b) s.heap H locs → lv_has ls 4 [(0, .ref x0), (1, .null), (2, .int v2), (3, .int v3)] → W p l e rm_X7_areLevelsFit s m args below meth c H locs 0 0 (MQ below (gQ G (PI Φ)) args s rm_X7_areLevelsFit.cells rm_X7_areLevelsFit.slots (Ab G.b)) (F0 m 17 ls [])) : ∀ (S : Hp) (v2 : Int32) (v3 : Int32) (H : Heap) (locs : List Loc) (ls : Array Slot), wX7_areLevelsFit_n_b17 x0 Φ k10 k17 S v2 v3 → Ok G S H → va_S (Ab G.b) s.heap H locs → lv_has ls 4 [(0, .ref x0), (1, .null), (2, .int v2), (3, .int v3)] → W p l e rm_X7_areLevelsFit s m args below meth c H locs 0 0 (MQ below (gQ G (PI Φ)) args s rm_X7_areLevelsFit.cells rm_X7_areLevelsFit.slots (Ab G.b)) (F0 m 17 ls []) := by
  intro S v2 v3 H locs ls h hO hS hl
  unfold wX7_areLevelsFit_n_b17 at h
  refine lv_iload_n C0.1 C0.2.1 dX7_areLevelsFit_17 rfl (lv_at hl 3 rfl) ?_
  refine lv_aload_n C0.1 C0.2.1 dX7_areLevelsFit_18 rfl (lv_at hl 0 rfl) ?_
  obtain ⟨i1, h⟩ := h
  obtain ⟨a2, ea2, h⟩ := h
  refine g7_0 C0 hO i1 ea2 tb_135 dX7_areLevelsFit_19 ?_
  obtain ⟨i5, h⟩ := h
  refine c_V C0 hO hS (mJx4a65c_size_8abf5 h) i5 (by decide) rfl rfl tb_204 tb_205 tb_206 tb_30 tb_207 hd_Jx4a65c_size_8abf5 rfl ⟨⟨by decide, by decide⟩, by decide, by decide⟩ hl.1 rfl (Nat.le_of_ble_eq_true rfl) dX7_areLevelsFit_22 (kI (fun r4 S3 H locs h hO hS => ?_))
  refine lv_icmp_ge (tgt := 49) C0.1 C0.2.1 dX7_areLevelsFit_25 (by decide) (fun c6 => ?_) (fun c6 => ?_)
  · have h := h.1 c6
    refine lv_aload_nN C0.1 C0.2.1 dX7_areLevelsFit_49 rfl (lv_at hl 1 rfl) ?_
    refine lv_ifnullN (tgt := 58) C0.1 C0.2.1 dX7_areLevelsFit_50 (by decide) ?_
    exact bX7_areLevelsFit_n_b58 C0 Y hk10 _ _ _ _ _ h hO hS (lv_sub hl [0, 1, 2] rfl)
  · have h := h.2 c6
    refine lv_aload_n C0.1 C0.2.1 dX7_areLevelsFit_28 rfl (lv_at hl 0 rfl) ?_
    refine lv_aload_n C0.1 C0.2.1 dX7_areLevelsFit_29 rfl (lv_at hl 0 rfl) ?_
    obtain ⟨i7, h⟩ := h
    obtain ⟨a8, ea8, h⟩ := h
    refine g7_0 C0 hO i7 ea8 tb_135 dX7_areLevelsFit_30 ?_
    refine lv_iload_n C0.1 C0.2.1 dX7_areLevelsFit_33 rfl (lv_at hl 3 rfl) ?_
    obtain ⟨i11, h⟩ := h
    refine c_V C0 hO hS (mJx4a65c_get_915e3 h) i11 (by decide) rfl rfl tb_280 tb_281 tb_282 tb_30 tb_283 hd_Jx4a65c_get_915e3 rfl ⟨⟨by decide, by decide⟩, by decide, by decide⟩ hl.1 rfl (Nat.le_of_ble_eq_true rfl) dX7_areLevelsFit_34 (kR (fun r10 S9 H locs h hO hS => ?_))
    obtain ⟨a12, ea12, h⟩ := h
    subst ea12
    change W _ _ _ _ _ _ _ _ _ _ _ _ _ _ _ (F0 _ _ _ (.ref a12 :: _))
    obtain ⟨i13, h⟩ := h
    refine r_castO C0 hO i13 (by decide) rfl tb_294 dX7_areLevelsFit_37 ?_
    obtain ⟨i15, h⟩ := h
    refine c_V C0 hO hS (mX7_raiseLevel h) i15 (by decide) rfl rfl tb_443 tb_445 tb_10 tb_27 tb_446 hd_X7_raiseLevel rfl ⟨⟨by decide, by decide⟩, by decide, by decide⟩ hl.1 rfl (Nat.le_of_ble_eq_true rfl) dX7_areLevelsFit_40 (kV (fun S14 H locs h hO hS => ?_))
    refine lv_iinc (v := _ + 1) C0.1 C0.2.1 dX7_areLevelsFit_43 hl (k := 3) rfl rfl (by decide) rfl (fun ls hl => ?_)
    refine lv_goto (tgt := 17) C0.1 C0.2.1 dX7_areLevelsFit_46 (by decide) ?_
    exact hk17 _ _ _ _ _ _ h hO hS (lv_sub hl [1, 2, 3, 0] rfl)
set_option maxHeartbeats 4000000 in
set_option maxRecDepth 100000 in
theorem lX7_areLevelsFit_n_b17 {p : Program} {l : Launch} {e : Env} {s : State} {m : MethodId} {args : Array Value} {below : List Frame} {meth : Method} {c : Code} {G : Gw} {x0 : Nat} {Φ : Hp → Int32 → Prop} (C0 : Mx p s m c cX7_areLevelsFit 4 args yX7_areLevelsFit.cls G) (Y : My meth (some .boolean)) {k10 : Hp → Int32 → Prop} (hk10 : ∀ (S : Hp) (v2 : Int32) (H : Heap) (locs : List Loc) (ls : Array Slot), k10 S v2 → Ok G S H → va_S (Ab G.b) s.heap H locs → lv_has ls 4 [(0, .ref x0), (1, .null), (2, .int v2)] → W p l e rm_X7_areLevelsFit s m args below meth c H locs 0 0 (MQ below (gQ G (PI Φ)) args s rm_X7_areLevelsFit.cells rm_X7_areLevelsFit.slots (Ab G.b)) (F0 m 10 ls [])) : ∀ n9 : Nat, ∀ (S : Hp) (v2 : Int32) (v3 : Int32) (H : Heap) (locs : List Loc) (ls : Array Slot), it3 (wX7_areLevelsFit_n_b17 x0 Φ k10) n9 S v2 v3 → Ok G S H → va_S (Ab G.b) s.heap H locs → lv_has ls 4 [(0, .ref x0), (1, .null), (2, .int v2), (3, .int v3)] → W p l e rm_X7_areLevelsFit s m args below meth c H locs 0 0 (MQ below (gQ G (PI Φ)) args s rm_X7_areLevelsFit.cells rm_X7_areLevelsFit.slots (Ab G.b)) (F0 m 17 ls []) := by
  intro n9
  induction n9 with
  | zero => intro S v2 v3 H locs ls h; exact (h : False).elim
  | succ n9 ih => intro S v2 v3 H locs ls h hO hS hl; exact bX7_areLevelsFit_n_b17 C0 Y hk10 ih S v2 v3 H locs ls h hO hS hl
def wX7_areLevelsFit_n_b66 (x0 : Nat) (Φ : Hp → Int32 → Prop) (k66 : Hp → Int32 → Prop) (S : Hp) (v2 : Int32) : Prop := isA S x0 7 ∧ (((S.FI 461 x0) ≤ v2 → Φ S 1) ∧ (¬ ((S.FI 461 x0) ≤ v2) → ∃ a3, S.FR 453 x0 = some a3 ∧ isA S a3 21 ∧ vp_in v2 (S.N a3) ∧ (((S.AI a3 v2.toNatClampNeg) ≤ 3 → k66 S (v2 + 1)) ∧ (¬ ((S.AI a3 v2.toNatClampNeg) ≤ 3) → Φ S 0))))
set_option maxHeartbeats 4000000 in
set_option maxRecDepth 100000 in
theorem bX7_areLevelsFit_n_b66 {p : Program} {l : Launch} {e : Env} {s : State} {m : MethodId} {args : Array Value} {below : List Frame} {meth : Method} {c : Code} {G : Gw} {x0 : Nat} {Φ : Hp → Int32 → Prop} (C0 : Mx p s m c cX7_areLevelsFit 4 args yX7_areLevelsFit.cls G) (Y : My meth (some .boolean)) {k66 : Hp → Int32 → Prop} (hk66 : ∀ (S : Hp) (v2 : Int32) (H : Heap) (locs : List Loc) (ls : Array Slot), k66 S v2 → Ok G S H → va_S (Ab G.b) s.heap H locs → lv_has ls 4 [(0, .ref x0), (1, .null), (2, .int v2)] → W p l e rm_X7_areLevelsFit s m args below meth c H locs 0 0 (MQ below (gQ G (PI Φ)) args s rm_X7_areLevelsFit.cells rm_X7_areLevelsFit.slots (Ab G.b)) (F0 m 66 ls [])) : ∀ (S : Hp) (v2 : Int32) (H : Heap) (locs : List Loc) (ls : Array Slot), wX7_areLevelsFit_n_b66 x0 Φ k66 S v2 → Ok G S H → va_S (Ab G.b) s.heap H locs → lv_has ls 4 [(0, .ref x0), (1, .null), (2, .int v2)] → W p l e rm_X7_areLevelsFit s m args below meth c H locs 0 0 (MQ below (gQ G (PI Φ)) args s rm_X7_areLevelsFit.cells rm_X7_areLevelsFit.slots (Ab G.b)) (F0 m 66 ls []) := by
  intro S v2 H locs ls h hO hS hl
  unfold wX7_areLevelsFit_n_b66 at h
  refine lv_iload_n C0.1 C0.2.1 dX7_areLevelsFit_66 rfl (lv_at hl 2 rfl) ?_
  refine lv_aload_n C0.1 C0.2.1 dX7_areLevelsFit_67 rfl (lv_at hl 0 rfl) ?_
  obtain ⟨i1, h⟩ := h
  refine g7_13 C0 hO i1 tb_148 dX7_areLevelsFit_68 ?_
  refine lv_icmp_ge (tgt := 92) C0.1 C0.2.1 dX7_areLevelsFit_71 (by decide) (fun c2 => ?_) (fun c2 => ?_)
  · have h := h.1 c2
    refine lv_iconst (v := 1) C0.1 C0.2.1 dX7_areLevelsFit_92 (by decide) ?_
    exact e_Z C0 Y hO hS rfl h (Nat.le_refl _) (Nat.le_refl _) dX7_areLevelsFit_93
  · have h := h.2 c2
    refine lv_aload_n C0.1 C0.2.1 dX7_areLevelsFit_74 rfl (lv_at hl 0 rfl) ?_
    obtain ⟨a3, ea3, h⟩ := h
    refine g7_5 C0 hO i1 ea3 tb_140 dX7_areLevelsFit_75 ?_
    refine lv_iload_n C0.1 C0.2.1 dX7_areLevelsFit_78 rfl (lv_at hl 2 rfl) ?_
    obtain ⟨i4, h⟩ := h
    obtain ⟨e5, h⟩ := h
    refine r_iald C0 hO i4 e5 dX7_areLevelsFit_79 ?_
    refine lv_iconst (v := 3) C0.1 C0.2.1 dX7_areLevelsFit_80 (by decide) ?_
    refine lv_icmp_le (tgt := 86) C0.1 C0.2.1 dX7_areLevelsFit_81 (by decide) (fun c6 => ?_) (fun c6 => ?_)
    · have h := h.1 c6
      refine lv_iinc (v := _ + 1) C0.1 C0.2.1 dX7_areLevelsFit_86 hl (k := 2) rfl rfl (by decide) rfl (fun ls hl => ?_)
      refine lv_goto (tgt := 66) C0.1 C0.2.1 dX7_areLevelsFit_89 (by decide) ?_
      exact hk66 _ _ _ _ _ h hO hS (lv_sub hl [1, 2, 0] rfl)
    · have h := h.2 c6
      refine lv_iconst (v := 0) C0.1 C0.2.1 dX7_areLevelsFit_84 (by decide) ?_
      exact e_Z C0 Y hO hS rfl h (Nat.le_refl _) (Nat.le_refl _) dX7_areLevelsFit_85
set_option maxHeartbeats 4000000 in
set_option maxRecDepth 100000 in
theorem lX7_areLevelsFit_n_b66 {p : Program} {l : Launch} {e : Env} {s : State} {m : MethodId} {args : Array Value} {below : List Frame} {meth : Method} {c : Code} {G : Gw} {x0 : Nat} {Φ : Hp → Int32 → Prop} (C0 : Mx p s m c cX7_areLevelsFit 4 args yX7_areLevelsFit.cls G) (Y : My meth (some .boolean))  : ∀ n9 : Nat, ∀ (S : Hp) (v2 : Int32) (H : Heap) (locs : List Loc) (ls : Array Slot), it2 (wX7_areLevelsFit_n_b66 x0 Φ) n9 S v2 → Ok G S H → va_S (Ab G.b) s.heap H locs → lv_has ls 4 [(0, .ref x0), (1, .null), (2, .int v2)] → W p l e rm_X7_areLevelsFit s m args below meth c H locs 0 0 (MQ below (gQ G (PI Φ)) args s rm_X7_areLevelsFit.cells rm_X7_areLevelsFit.slots (Ab G.b)) (F0 m 66 ls []) := by
  intro n9
  induction n9 with
  | zero => intro S v2 H locs ls h; exact (h : False).elim
  | succ n9 ih => intro S v2 H locs ls h hO hS hl; exact bX7_areLevelsFit_n_b66 C0 Y ih S v2 H locs ls h hO hS hl
def wX7_areLevelsFit_n_b10 (x0 : Nat) (Φ : Hp → Int32 → Prop) (k10 : Hp → Int32 → Prop) (S : Hp) (v2 : Int32) : Prop := ((3 < v2 → ∃ n, it2 (wX7_areLevelsFit_n_b66 x0 Φ) n S 0) ∧ (¬ (3 < v2) → ∃ n, it3 (wX7_areLevelsFit_n_b17 x0 Φ k10) n S v2 0))
set_option maxHeartbeats 4000000 in
set_option maxRecDepth 100000 in
theorem bX7_areLevelsFit_n_b10 {p : Program} {l : Launch} {e : Env} {s : State} {m : MethodId} {args : Array Value} {below : List Frame} {meth : Method} {c : Code} {G : Gw} {x0 : Nat} {Φ : Hp → Int32 → Prop} (C0 : Mx p s m c cX7_areLevelsFit 4 args yX7_areLevelsFit.cls G) (Y : My meth (some .boolean)) {k10 : Hp → Int32 → Prop} (hk10 : ∀ (S : Hp) (v2 : Int32) (H : Heap) (locs : List Loc) (ls : Array Slot), k10 S v2 → Ok G S H → va_S (Ab G.b) s.heap H locs → lv_has ls 4 [(0, .ref x0), (1, .null), (2, .int v2)] → W p l e rm_X7_areLevelsFit s m args below meth c H locs 0 0 (MQ below (gQ G (PI Φ)) args s rm_X7_areLevelsFit.cells rm_X7_areLevelsFit.slots (Ab G.b)) (F0 m 10 ls [])) : ∀ (S : Hp) (v2 : Int32) (H : Heap) (locs : List Loc) (ls : Array Slot), wX7_areLevelsFit_n_b10 x0 Φ k10 S v2 → Ok G S H → va_S (Ab G.b) s.heap H locs → lv_has ls 4 [(0, .ref x0), (1, .null), (2, .int v2)] → W p l e rm_X7_areLevelsFit s m args below meth c H locs 0 0 (MQ below (gQ G (PI Φ)) args s rm_X7_areLevelsFit.cells rm_X7_areLevelsFit.slots (Ab G.b)) (F0 m 10 ls []) := by
  intro S v2 H locs ls h hO hS hl
  unfold wX7_areLevelsFit_n_b10 at h
  refine lv_iload_n C0.1 C0.2.1 dX7_areLevelsFit_10 rfl (lv_at hl 2 rfl) ?_
  refine lv_iconst (v := 3) C0.1 C0.2.1 dX7_areLevelsFit_11 (by decide) ?_
  refine lv_icmp_gt (tgt := 64) C0.1 C0.2.1 dX7_areLevelsFit_12 (by decide) (fun c1 => ?_) (fun c1 => ?_)
  · have h := h.1 c1
    refine lv_iconst (v := 0) C0.1 C0.2.1 dX7_areLevelsFit_64 (by decide) ?_
    refine lv_istore_n C0.1 C0.2.1 dX7_areLevelsFit_65 rfl hl (by decide) rfl (fun ls hl => ?_)
    obtain ⟨n9, h⟩ := h
    exact lX7_areLevelsFit_n_b66 C0 Y n9 _ _ _ _ _ h hO hS (lv_sub hl [1, 2, 0] rfl)
  · have h := h.2 c1
    refine lv_iconst (v := 0) C0.1 C0.2.1 dX7_areLevelsFit_15 (by decide) ?_
    refine lv_istore_n C0.1 C0.2.1 dX7_areLevelsFit_16 rfl hl (by decide) rfl (fun ls hl => ?_)
    obtain ⟨n9, h⟩ := h
    exact lX7_areLevelsFit_n_b17 C0 Y hk10 n9 _ _ _ _ _ _ h hO hS (lv_sub hl [1, 2, 3, 0] rfl)
set_option maxHeartbeats 4000000 in
set_option maxRecDepth 100000 in
theorem lX7_areLevelsFit_n_b10 {p : Program} {l : Launch} {e : Env} {s : State} {m : MethodId} {args : Array Value} {below : List Frame} {meth : Method} {c : Code} {G : Gw} {x0 : Nat} {Φ : Hp → Int32 → Prop} (C0 : Mx p s m c cX7_areLevelsFit 4 args yX7_areLevelsFit.cls G) (Y : My meth (some .boolean))  : ∀ n9 : Nat, ∀ (S : Hp) (v2 : Int32) (H : Heap) (locs : List Loc) (ls : Array Slot), it2 (wX7_areLevelsFit_n_b10 x0 Φ) n9 S v2 → Ok G S H → va_S (Ab G.b) s.heap H locs → lv_has ls 4 [(0, .ref x0), (1, .null), (2, .int v2)] → W p l e rm_X7_areLevelsFit s m args below meth c H locs 0 0 (MQ below (gQ G (PI Φ)) args s rm_X7_areLevelsFit.cells rm_X7_areLevelsFit.slots (Ab G.b)) (F0 m 10 ls []) := by
  intro n9
  induction n9 with
  | zero => intro S v2 H locs ls h; exact (h : False).elim
  | succ n9 ih => intro S v2 H locs ls h hO hS hl; exact bX7_areLevelsFit_n_b10 C0 Y ih S v2 H locs ls h hO hS hl
def wX7_areLevelsFit_n_b0 (x0 : Nat) (Φ : Hp → Int32 → Prop) (S : Hp) : Prop := isA S x0 7 ∧ ∃ a2, S.FR 453 x0 = some a2 ∧ wJ7_fill_53178 S a2 0 (fun S3 => ∃ n, it2 (wX7_areLevelsFit_n_b10 x0 Φ) n S3 0)
set_option maxHeartbeats 4000000 in
set_option maxRecDepth 100000 in
theorem bX7_areLevelsFit_n_b0 {p : Program} {l : Launch} {e : Env} {s : State} {m : MethodId} {args : Array Value} {below : List Frame} {meth : Method} {c : Code} {G : Gw} {x0 : Nat} {Φ : Hp → Int32 → Prop} (C0 : Mx p s m c cX7_areLevelsFit 4 args yX7_areLevelsFit.cls G) (Y : My meth (some .boolean))  : ∀ (S : Hp) (H : Heap) (locs : List Loc) (ls : Array Slot), wX7_areLevelsFit_n_b0 x0 Φ S → Ok G S H → va_S (Ab G.b) s.heap H locs → lv_has ls 4 [(0, .ref x0), (1, .null)] → W p l e rm_X7_areLevelsFit s m args below meth c H locs 0 0 (MQ below (gQ G (PI Φ)) args s rm_X7_areLevelsFit.cells rm_X7_areLevelsFit.slots (Ab G.b)) (F0 m 0 ls []) := by
  intro S H locs ls h hO hS hl
  unfold wX7_areLevelsFit_n_b0 at h
  refine lv_aload_n C0.1 C0.2.1 dX7_areLevelsFit_0 rfl (lv_at hl 0 rfl) ?_
  obtain ⟨i1, h⟩ := h
  obtain ⟨a2, ea2, h⟩ := h
  refine g7_5 C0 hO i1 ea2 tb_140 dX7_areLevelsFit_1 ?_
  refine lv_iconst (v := 0) C0.1 C0.2.1 dX7_areLevelsFit_4 (by decide) ?_
  refine c_S C0 hO hS (mJ7_fill_53178 h) tb_132 tb_133 tb_32 tb_134 hd_J7_fill_53178 rfl ⟨⟨by decide, by decide⟩, by decide, by decide⟩ hl.1 rfl (Nat.le_of_ble_eq_true rfl) dX7_areLevelsFit_5 (kV (fun S3 H locs h hO hS => ?_))
  refine lv_iconst (v := 0) C0.1 C0.2.1 dX7_areLevelsFit_8 (by decide) ?_
  refine lv_istore_n C0.1 C0.2.1 dX7_areLevelsFit_9 rfl hl (by decide) rfl (fun ls hl => ?_)
  obtain ⟨n9, h⟩ := h
  exact lX7_areLevelsFit_n_b10 C0 Y n9 _ _ _ _ _ h hO hS (lv_sub hl [1, 2, 0] rfl)
def wX7_areLevelsFit_n (S : Hp) (x0 : Nat) (Φ : Hp → Int32 → Prop) : Prop := wX7_areLevelsFit_n_b0 x0 Φ S
set_option maxRecDepth 100000 in
theorem mX7_areLevelsFit_n {l : Launch} {G : Gw} {S : Hp} {x0 : Nat} {Φ : Hp → Int32 → Prop} (h : wX7_areLevelsFit_n S x0 Φ) : gM l yX7_areLevelsFit cX7_areLevelsFit 4 (some .boolean) rm_X7_areLevelsFit [.ref x0, .null] G S (PI Φ) := by
  unfold gM
  refine Met.ofW (cc := cX7_areLevelsFit) (maxL := 4) (ret := (some .boolean)) (by decide) rfl ?_
  intro p e s m args below meth c s₁ B hml hv
  obtain ⟨rfl, hw⟩ := hv
  obtain ⟨C0, Y, hO⟩ := mx_of B hml hw
  have hS : va_S (Ab G.b) s.heap s.heap [] := va_S.rf
  have hl := lv_entry ([.ref x0, .null]) (n := 4) (Nat.le_of_ble_eq_true rfl)
  rw [lg_entry_eq]
  generalize (lg_sl ([.ref x0, .null]) ++ List.replicate (4 - (lg_sl ([.ref x0, .null])).length) Slot.unset).toArray = ls at hl ⊢
  have hl : lv_has ls 4 [(0, .ref x0), (1, .null)] := hl
  exact bX7_areLevelsFit_n_b0 C0 Y S _ _ _ h hO hS hl

def wX7_areLevelsFit_s_b58 (x0 : Nat) (x1 : Nat) (Φ : Hp → Int32 → Prop) (k10 : Hp → Int32 → Prop) (S : Hp) (v2 : Int32) : Prop := k10 S (v2 + 1)
set_option maxHeartbeats 4000000 in
set_option maxRecDepth 100000 in
theorem bX7_areLevelsFit_s_b58 {p : Program} {l : Launch} {e : Env} {s : State} {m : MethodId} {args : Array Value} {below : List Frame} {meth : Method} {c : Code} {G : Gw} {x0 : Nat} {x1 : Nat} {Φ : Hp → Int32 → Prop} (C0 : Mx p s m c cX7_areLevelsFit 4 args yX7_areLevelsFit.cls G) (Y : My meth (some .boolean)) {k10 : Hp → Int32 → Prop} (hk10 : ∀ (S : Hp) (v2 : Int32) (H : Heap) (locs : List Loc) (ls : Array Slot), k10 S v2 → Ok G S H → va_S (Ab G.b) s.heap H locs → lv_has ls 4 [(0, .ref x0), (1, .ref x1), (2, .int v2)] → W p l e rm_X7_areLevelsFit s m args below meth c H locs 0 0 (MQ below (gQ G (PI Φ)) args s rm_X7_areLevelsFit.cells rm_X7_areLevelsFit.slots (Ab G.b)) (F0 m 10 ls [])) : ∀ (S : Hp) (v2 : Int32) (H : Heap) (locs : List Loc) (ls : Array Slot), wX7_areLevelsFit_s_b58 x0 x1 Φ k10 S v2 → Ok G S H → va_S (Ab G.b) s.heap H locs → lv_has ls 4 [(0, .ref x0), (1, .ref x1), (2, .int v2)] → W p l e rm_X7_areLevelsFit s m args below meth c H locs 0 0 (MQ below (gQ G (PI Φ)) args s rm_X7_areLevelsFit.cells rm_X7_areLevelsFit.slots (Ab G.b)) (F0 m 58 ls []) := by
  intro S v2 H locs ls h hO hS hl
  unfold wX7_areLevelsFit_s_b58 at h
  refine lv_iinc (v := _ + 1) C0.1 C0.2.1 dX7_areLevelsFit_58 hl (k := 2) rfl rfl (by decide) rfl (fun ls hl => ?_)
  refine lv_goto (tgt := 10) C0.1 C0.2.1 dX7_areLevelsFit_61 (by decide) ?_
  exact hk10 _ _ _ _ _ h hO hS (lv_sub hl [1, 2, 0] rfl)
def wX7_areLevelsFit_s_b17 (x0 : Nat) (x1 : Nat) (Φ : Hp → Int32 → Prop) (k10 : Hp → Int32 → Prop) (k17 : Hp → Int32 → Int32 → Prop) (S : Hp) (v2 : Int32) (v3 : Int32) : Prop := isA S x0 7 ∧ ∃ a2, S.FR 448 x0 = some a2 ∧ isA S a2 9 ∧ wJx4a65c_size_8abf5 S a2 (fun S3 r4 => ((r4 ≤ v3 → isA S3 x0 7 ∧ wX7_raiseLevel S3 x0 x1 (fun S7 => wX7_areLevelsFit_s_b58 x0 x1 Φ k10 S7 v2)) ∧ (¬ (r4 ≤ v3) → isA S3 x0 7 ∧ ∃ a10, S3.FR 448 x0 = some a10 ∧ isA S3 a10 9 ∧ wJx4a65c_get_915e3 S3 a10 v3 (fun S11 r12 => ∃ a14, r12 = some a14 ∧ isA S11 a14 5 ∧ isA S11 x0 7 ∧ wX7_raiseLevel S11 x0 a14 (fun S16 => k17 S16 v2 (v3 + 1))))))
set_option maxHeartbeats 4000000 in
set_option maxRecDepth 100000 in
theorem bX7_areLevelsFit_s_b17 {p : Program} {l : Launch} {e : Env} {s : State} {m : MethodId} {args : Array Value} {below : List Frame} {meth : Method} {c : Code} {G : Gw} {x0 : Nat} {x1 : Nat} {Φ : Hp → Int32 → Prop} (C0 : Mx p s m c cX7_areLevelsFit 4 args yX7_areLevelsFit.cls G) (Y : My meth (some .boolean)) {k10 : Hp → Int32 → Prop} (hk10 : ∀ (S : Hp) (v2 : Int32) (H : Heap) (locs : List Loc) (ls : Array Slot), k10 S v2 → Ok G S H → va_S (Ab G.b) s.heap H locs → lv_has ls 4 [(0, .ref x0), (1, .ref x1), (2, .int v2)] → W p l e rm_X7_areLevelsFit s m args below meth c H locs 0 0 (MQ below (gQ G (PI Φ)) args s rm_X7_areLevelsFit.cells rm_X7_areLevelsFit.slots (Ab G.b)) (F0 m 10 ls [])) {k17 : Hp → Int32 → Int32 → Prop} (hk17 : ∀ (S : Hp) (v2 : Int32) (v3 : Int32) (H : Heap) (locs : List Loc) (ls : Array Slot), k17 S v2 v3 → Ok G S H → va_S (Ab G.b) s.heap H locs → lv_has ls 4 [(0, .ref x0), (1, .ref x1), (2, .int v2), (3, .int v3)] → W p l e rm_X7_areLevelsFit s m args below meth c H locs 0 0 (MQ below (gQ G (PI Φ)) args s rm_X7_areLevelsFit.cells rm_X7_areLevelsFit.slots (Ab G.b)) (F0 m 17 ls [])) : ∀ (S : Hp) (v2 : Int32) (v3 : Int32) (H : Heap) (locs : List Loc) (ls : Array Slot), wX7_areLevelsFit_s_b17 x0 x1 Φ k10 k17 S v2 v3 → Ok G S H → va_S (Ab G.b) s.heap H locs → lv_has ls 4 [(0, .ref x0), (1, .ref x1), (2, .int v2), (3, .int v3)] → W p l e rm_X7_areLevelsFit s m args below meth c H locs 0 0 (MQ below (gQ G (PI Φ)) args s rm_X7_areLevelsFit.cells rm_X7_areLevelsFit.slots (Ab G.b)) (F0 m 17 ls []) := by
  intro S v2 v3 H locs ls h hO hS hl
  unfold wX7_areLevelsFit_s_b17 at h
  refine lv_iload_n C0.1 C0.2.1 dX7_areLevelsFit_17 rfl (lv_at hl 3 rfl) ?_
  refine lv_aload_n C0.1 C0.2.1 dX7_areLevelsFit_18 rfl (lv_at hl 0 rfl) ?_
  obtain ⟨i1, h⟩ := h
  obtain ⟨a2, ea2, h⟩ := h
  refine g7_0 C0 hO i1 ea2 tb_135 dX7_areLevelsFit_19 ?_
  obtain ⟨i5, h⟩ := h
  refine c_V C0 hO hS (mJx4a65c_size_8abf5 h) i5 (by decide) rfl rfl tb_204 tb_205 tb_206 tb_30 tb_207 hd_Jx4a65c_size_8abf5 rfl ⟨⟨by decide, by decide⟩, by decide, by decide⟩ hl.1 rfl (Nat.le_of_ble_eq_true rfl) dX7_areLevelsFit_22 (kI (fun r4 S3 H locs h hO hS => ?_))
  refine lv_icmp_ge (tgt := 49) C0.1 C0.2.1 dX7_areLevelsFit_25 (by decide) (fun c6 => ?_) (fun c6 => ?_)
  · have h := h.1 c6
    refine lv_aload_n C0.1 C0.2.1 dX7_areLevelsFit_49 rfl (lv_at hl 1 rfl) ?_
    refine lv_ifnull C0.1 C0.2.1 dX7_areLevelsFit_50 ?_
    refine lv_aload_n C0.1 C0.2.1 dX7_areLevelsFit_53 rfl (lv_at hl 0 rfl) ?_
    refine lv_aload_n C0.1 C0.2.1 dX7_areLevelsFit_54 rfl (lv_at hl 1 rfl) ?_
    obtain ⟨i8, h⟩ := h
    refine c_V C0 hO hS (mX7_raiseLevel h) i8 (by decide) rfl rfl tb_443 tb_445 tb_10 tb_27 tb_446 hd_X7_raiseLevel rfl ⟨⟨by decide, by decide⟩, by decide, by decide⟩ hl.1 rfl (Nat.le_of_ble_eq_true rfl) dX7_areLevelsFit_55 (kV (fun S7 H locs h hO hS => ?_))
    exact bX7_areLevelsFit_s_b58 C0 Y hk10 _ _ _ _ _ h hO hS (lv_sub hl [0, 1, 2] rfl)
  · have h := h.2 c6
    refine lv_aload_n C0.1 C0.2.1 dX7_areLevelsFit_28 rfl (lv_at hl 0 rfl) ?_
    refine lv_aload_n C0.1 C0.2.1 dX7_areLevelsFit_29 rfl (lv_at hl 0 rfl) ?_
    obtain ⟨i9, h⟩ := h
    obtain ⟨a10, ea10, h⟩ := h
    refine g7_0 C0 hO i9 ea10 tb_135 dX7_areLevelsFit_30 ?_
    refine lv_iload_n C0.1 C0.2.1 dX7_areLevelsFit_33 rfl (lv_at hl 3 rfl) ?_
    obtain ⟨i13, h⟩ := h
    refine c_V C0 hO hS (mJx4a65c_get_915e3 h) i13 (by decide) rfl rfl tb_280 tb_281 tb_282 tb_30 tb_283 hd_Jx4a65c_get_915e3 rfl ⟨⟨by decide, by decide⟩, by decide, by decide⟩ hl.1 rfl (Nat.le_of_ble_eq_true rfl) dX7_areLevelsFit_34 (kR (fun r12 S11 H locs h hO hS => ?_))
    obtain ⟨a14, ea14, h⟩ := h
    subst ea14
    change W _ _ _ _ _ _ _ _ _ _ _ _ _ _ _ (F0 _ _ _ (.ref a14 :: _))
    obtain ⟨i15, h⟩ := h
    refine r_castO C0 hO i15 (by decide) rfl tb_294 dX7_areLevelsFit_37 ?_
    obtain ⟨i17, h⟩ := h
    refine c_V C0 hO hS (mX7_raiseLevel h) i17 (by decide) rfl rfl tb_443 tb_445 tb_10 tb_27 tb_446 hd_X7_raiseLevel rfl ⟨⟨by decide, by decide⟩, by decide, by decide⟩ hl.1 rfl (Nat.le_of_ble_eq_true rfl) dX7_areLevelsFit_40 (kV (fun S16 H locs h hO hS => ?_))
    refine lv_iinc (v := _ + 1) C0.1 C0.2.1 dX7_areLevelsFit_43 hl (k := 3) rfl rfl (by decide) rfl (fun ls hl => ?_)
    refine lv_goto (tgt := 17) C0.1 C0.2.1 dX7_areLevelsFit_46 (by decide) ?_
    exact hk17 _ _ _ _ _ _ h hO hS (lv_sub hl [1, 2, 3, 0] rfl)
set_option maxHeartbeats 4000000 in
set_option maxRecDepth 100000 in
theorem lX7_areLevelsFit_s_b17 {p : Program} {l : Launch} {e : Env} {s : State} {m : MethodId} {args : Array Value} {below : List Frame} {meth : Method} {c : Code} {G : Gw} {x0 : Nat} {x1 : Nat} {Φ : Hp → Int32 → Prop} (C0 : Mx p s m c cX7_areLevelsFit 4 args yX7_areLevelsFit.cls G) (Y : My meth (some .boolean)) {k10 : Hp → Int32 → Prop} (hk10 : ∀ (S : Hp) (v2 : Int32) (H : Heap) (locs : List Loc) (ls : Array Slot), k10 S v2 → Ok G S H → va_S (Ab G.b) s.heap H locs → lv_has ls 4 [(0, .ref x0), (1, .ref x1), (2, .int v2)] → W p l e rm_X7_areLevelsFit s m args below meth c H locs 0 0 (MQ below (gQ G (PI Φ)) args s rm_X7_areLevelsFit.cells rm_X7_areLevelsFit.slots (Ab G.b)) (F0 m 10 ls [])) : ∀ n9 : Nat, ∀ (S : Hp) (v2 : Int32) (v3 : Int32) (H : Heap) (locs : List Loc) (ls : Array Slot), it3 (wX7_areLevelsFit_s_b17 x0 x1 Φ k10) n9 S v2 v3 → Ok G S H → va_S (Ab G.b) s.heap H locs → lv_has ls 4 [(0, .ref x0), (1, .ref x1), (2, .int v2), (3, .int v3)] → W p l e rm_X7_areLevelsFit s m args below meth c H locs 0 0 (MQ below (gQ G (PI Φ)) args s rm_X7_areLevelsFit.cells rm_X7_areLevelsFit.slots (Ab G.b)) (F0 m 17 ls []) := by
  intro n9
  induction n9 with
  | zero => intro S v2 v3 H locs ls h; exact (h : False).elim
  | succ n9 ih => intro S v2 v3 H locs ls h hO hS hl; exact bX7_areLevelsFit_s_b17 C0 Y hk10 ih S v2 v3 H locs ls h hO hS hl
def wX7_areLevelsFit_s_b66 (x0 : Nat) (x1 : Nat) (Φ : Hp → Int32 → Prop) (k66 : Hp → Int32 → Prop) (S : Hp) (v2 : Int32) : Prop := isA S x0 7 ∧ (((S.FI 461 x0) ≤ v2 → Φ S 1) ∧ (¬ ((S.FI 461 x0) ≤ v2) → ∃ a3, S.FR 453 x0 = some a3 ∧ isA S a3 21 ∧ vp_in v2 (S.N a3) ∧ (((S.AI a3 v2.toNatClampNeg) ≤ 3 → k66 S (v2 + 1)) ∧ (¬ ((S.AI a3 v2.toNatClampNeg) ≤ 3) → Φ S 0))))
set_option maxHeartbeats 4000000 in
set_option maxRecDepth 100000 in
theorem bX7_areLevelsFit_s_b66 {p : Program} {l : Launch} {e : Env} {s : State} {m : MethodId} {args : Array Value} {below : List Frame} {meth : Method} {c : Code} {G : Gw} {x0 : Nat} {x1 : Nat} {Φ : Hp → Int32 → Prop} (C0 : Mx p s m c cX7_areLevelsFit 4 args yX7_areLevelsFit.cls G) (Y : My meth (some .boolean)) {k66 : Hp → Int32 → Prop} (hk66 : ∀ (S : Hp) (v2 : Int32) (H : Heap) (locs : List Loc) (ls : Array Slot), k66 S v2 → Ok G S H → va_S (Ab G.b) s.heap H locs → lv_has ls 4 [(0, .ref x0), (1, .ref x1), (2, .int v2)] → W p l e rm_X7_areLevelsFit s m args below meth c H locs 0 0 (MQ below (gQ G (PI Φ)) args s rm_X7_areLevelsFit.cells rm_X7_areLevelsFit.slots (Ab G.b)) (F0 m 66 ls [])) : ∀ (S : Hp) (v2 : Int32) (H : Heap) (locs : List Loc) (ls : Array Slot), wX7_areLevelsFit_s_b66 x0 x1 Φ k66 S v2 → Ok G S H → va_S (Ab G.b) s.heap H locs → lv_has ls 4 [(0, .ref x0), (1, .ref x1), (2, .int v2)] → W p l e rm_X7_areLevelsFit s m args below meth c H locs 0 0 (MQ below (gQ G (PI Φ)) args s rm_X7_areLevelsFit.cells rm_X7_areLevelsFit.slots (Ab G.b)) (F0 m 66 ls []) := by
  intro S v2 H locs ls h hO hS hl
  unfold wX7_areLevelsFit_s_b66 at h
  refine lv_iload_n C0.1 C0.2.1 dX7_areLevelsFit_66 rfl (lv_at hl 2 rfl) ?_
  refine lv_aload_n C0.1 C0.2.1 dX7_areLevelsFit_67 rfl (lv_at hl 0 rfl) ?_
  obtain ⟨i1, h⟩ := h
  refine g7_13 C0 hO i1 tb_148 dX7_areLevelsFit_68 ?_
  refine lv_icmp_ge (tgt := 92) C0.1 C0.2.1 dX7_areLevelsFit_71 (by decide) (fun c2 => ?_) (fun c2 => ?_)
  · have h := h.1 c2
    refine lv_iconst (v := 1) C0.1 C0.2.1 dX7_areLevelsFit_92 (by decide) ?_
    exact e_Z C0 Y hO hS rfl h (Nat.le_refl _) (Nat.le_refl _) dX7_areLevelsFit_93
  · have h := h.2 c2
    refine lv_aload_n C0.1 C0.2.1 dX7_areLevelsFit_74 rfl (lv_at hl 0 rfl) ?_
    obtain ⟨a3, ea3, h⟩ := h
    refine g7_5 C0 hO i1 ea3 tb_140 dX7_areLevelsFit_75 ?_
    refine lv_iload_n C0.1 C0.2.1 dX7_areLevelsFit_78 rfl (lv_at hl 2 rfl) ?_
    obtain ⟨i4, h⟩ := h
    obtain ⟨e5, h⟩ := h
    refine r_iald C0 hO i4 e5 dX7_areLevelsFit_79 ?_
    refine lv_iconst (v := 3) C0.1 C0.2.1 dX7_areLevelsFit_80 (by decide) ?_
    refine lv_icmp_le (tgt := 86) C0.1 C0.2.1 dX7_areLevelsFit_81 (by decide) (fun c6 => ?_) (fun c6 => ?_)
    · have h := h.1 c6
      refine lv_iinc (v := _ + 1) C0.1 C0.2.1 dX7_areLevelsFit_86 hl (k := 2) rfl rfl (by decide) rfl (fun ls hl => ?_)
      refine lv_goto (tgt := 66) C0.1 C0.2.1 dX7_areLevelsFit_89 (by decide) ?_
      exact hk66 _ _ _ _ _ h hO hS (lv_sub hl [1, 2, 0] rfl)
    · have h := h.2 c6
      refine lv_iconst (v := 0) C0.1 C0.2.1 dX7_areLevelsFit_84 (by decide) ?_
      exact e_Z C0 Y hO hS rfl h (Nat.le_refl _) (Nat.le_refl _) dX7_areLevelsFit_85
set_option maxHeartbeats 4000000 in
set_option maxRecDepth 100000 in
theorem lX7_areLevelsFit_s_b66 {p : Program} {l : Launch} {e : Env} {s : State} {m : MethodId} {args : Array Value} {below : List Frame} {meth : Method} {c : Code} {G : Gw} {x0 : Nat} {x1 : Nat} {Φ : Hp → Int32 → Prop} (C0 : Mx p s m c cX7_areLevelsFit 4 args yX7_areLevelsFit.cls G) (Y : My meth (some .boolean))  : ∀ n9 : Nat, ∀ (S : Hp) (v2 : Int32) (H : Heap) (locs : List Loc) (ls : Array Slot), it2 (wX7_areLevelsFit_s_b66 x0 x1 Φ) n9 S v2 → Ok G S H → va_S (Ab G.b) s.heap H locs → lv_has ls 4 [(0, .ref x0), (1, .ref x1), (2, .int v2)] → W p l e rm_X7_areLevelsFit s m args below meth c H locs 0 0 (MQ below (gQ G (PI Φ)) args s rm_X7_areLevelsFit.cells rm_X7_areLevelsFit.slots (Ab G.b)) (F0 m 66 ls []) := by
  intro n9
  induction n9 with
  | zero => intro S v2 H locs ls h; exact (h : False).elim
  | succ n9 ih => intro S v2 H locs ls h hO hS hl; exact bX7_areLevelsFit_s_b66 C0 Y ih S v2 H locs ls h hO hS hl
def wX7_areLevelsFit_s_b10 (x0 : Nat) (x1 : Nat) (Φ : Hp → Int32 → Prop) (k10 : Hp → Int32 → Prop) (S : Hp) (v2 : Int32) : Prop := ((3 < v2 → ∃ n, it2 (wX7_areLevelsFit_s_b66 x0 x1 Φ) n S 0) ∧ (¬ (3 < v2) → ∃ n, it3 (wX7_areLevelsFit_s_b17 x0 x1 Φ k10) n S v2 0))
set_option maxHeartbeats 4000000 in
set_option maxRecDepth 100000 in
theorem bX7_areLevelsFit_s_b10 {p : Program} {l : Launch} {e : Env} {s : State} {m : MethodId} {args : Array Value} {below : List Frame} {meth : Method} {c : Code} {G : Gw} {x0 : Nat} {x1 : Nat} {Φ : Hp → Int32 → Prop} (C0 : Mx p s m c cX7_areLevelsFit 4 args yX7_areLevelsFit.cls G) (Y : My meth (some .boolean)) {k10 : Hp → Int32 → Prop} (hk10 : ∀ (S : Hp) (v2 : Int32) (H : Heap) (locs : List Loc) (ls : Array Slot), k10 S v2 → Ok G S H → va_S (Ab G.b) s.heap H locs → lv_has ls 4 [(0, .ref x0), (1, .ref x1), (2, .int v2)] → W p l e rm_X7_areLevelsFit s m args below meth c H locs 0 0 (MQ below (gQ G (PI Φ)) args s rm_X7_areLevelsFit.cells rm_X7_areLevelsFit.slots (Ab G.b)) (F0 m 10 ls [])) : ∀ (S : Hp) (v2 : Int32) (H : Heap) (locs : List Loc) (ls : Array Slot), wX7_areLevelsFit_s_b10 x0 x1 Φ k10 S v2 → Ok G S H → va_S (Ab G.b) s.heap H locs → lv_has ls 4 [(0, .ref x0), (1, .ref x1), (2, .int v2)] → W p l e rm_X7_areLevelsFit s m args below meth c H locs 0 0 (MQ below (gQ G (PI Φ)) args s rm_X7_areLevelsFit.cells rm_X7_areLevelsFit.slots (Ab G.b)) (F0 m 10 ls []) := by
  intro S v2 H locs ls h hO hS hl
  unfold wX7_areLevelsFit_s_b10 at h
  refine lv_iload_n C0.1 C0.2.1 dX7_areLevelsFit_10 rfl (lv_at hl 2 rfl) ?_
  refine lv_iconst (v := 3) C0.1 C0.2.1 dX7_areLevelsFit_11 (by decide) ?_
  refine lv_icmp_gt (tgt := 64) C0.1 C0.2.1 dX7_areLevelsFit_12 (by decide) (fun c1 => ?_) (fun c1 => ?_)
  · have h := h.1 c1
    refine lv_iconst (v := 0) C0.1 C0.2.1 dX7_areLevelsFit_64 (by decide) ?_
    refine lv_istore_n C0.1 C0.2.1 dX7_areLevelsFit_65 rfl hl (by decide) rfl (fun ls hl => ?_)
    obtain ⟨n9, h⟩ := h
    exact lX7_areLevelsFit_s_b66 C0 Y n9 _ _ _ _ _ h hO hS (lv_sub hl [1, 2, 0] rfl)
  · have h := h.2 c1
    refine lv_iconst (v := 0) C0.1 C0.2.1 dX7_areLevelsFit_15 (by decide) ?_
    refine lv_istore_n C0.1 C0.2.1 dX7_areLevelsFit_16 rfl hl (by decide) rfl (fun ls hl => ?_)
    obtain ⟨n9, h⟩ := h
    exact lX7_areLevelsFit_s_b17 C0 Y hk10 n9 _ _ _ _ _ _ h hO hS (lv_sub hl [1, 2, 3, 0] rfl)
set_option maxHeartbeats 4000000 in
set_option maxRecDepth 100000 in
theorem lX7_areLevelsFit_s_b10 {p : Program} {l : Launch} {e : Env} {s : State} {m : MethodId} {args : Array Value} {below : List Frame} {meth : Method} {c : Code} {G : Gw} {x0 : Nat} {x1 : Nat} {Φ : Hp → Int32 → Prop} (C0 : Mx p s m c cX7_areLevelsFit 4 args yX7_areLevelsFit.cls G) (Y : My meth (some .boolean))  : ∀ n9 : Nat, ∀ (S : Hp) (v2 : Int32) (H : Heap) (locs : List Loc) (ls : Array Slot), it2 (wX7_areLevelsFit_s_b10 x0 x1 Φ) n9 S v2 → Ok G S H → va_S (Ab G.b) s.heap H locs → lv_has ls 4 [(0, .ref x0), (1, .ref x1), (2, .int v2)] → W p l e rm_X7_areLevelsFit s m args below meth c H locs 0 0 (MQ below (gQ G (PI Φ)) args s rm_X7_areLevelsFit.cells rm_X7_areLevelsFit.slots (Ab G.b)) (F0 m 10 ls []) := by
  intro n9
  induction n9 with
  | zero => intro S v2 H locs ls h; exact (h : False).elim
  | succ n9 ih => intro S v2 H locs ls h hO hS hl; exact bX7_areLevelsFit_s_b10 C0 Y ih S v2 H locs ls h hO hS hl
def wX7_areLevelsFit_s_b0 (x0 : Nat) (x1 : Nat) (Φ : Hp → Int32 → Prop) (S : Hp) : Prop := isA S x0 7 ∧ ∃ a2, S.FR 453 x0 = some a2 ∧ wJ7_fill_53178 S a2 0 (fun S3 => ∃ n, it2 (wX7_areLevelsFit_s_b10 x0 x1 Φ) n S3 0)
set_option maxHeartbeats 4000000 in
set_option maxRecDepth 100000 in
theorem bX7_areLevelsFit_s_b0 {p : Program} {l : Launch} {e : Env} {s : State} {m : MethodId} {args : Array Value} {below : List Frame} {meth : Method} {c : Code} {G : Gw} {x0 : Nat} {x1 : Nat} {Φ : Hp → Int32 → Prop} (C0 : Mx p s m c cX7_areLevelsFit 4 args yX7_areLevelsFit.cls G) (Y : My meth (some .boolean))  : ∀ (S : Hp) (H : Heap) (locs : List Loc) (ls : Array Slot), wX7_areLevelsFit_s_b0 x0 x1 Φ S → Ok G S H → va_S (Ab G.b) s.heap H locs → lv_has ls 4 [(0, .ref x0), (1, .ref x1)] → W p l e rm_X7_areLevelsFit s m args below meth c H locs 0 0 (MQ below (gQ G (PI Φ)) args s rm_X7_areLevelsFit.cells rm_X7_areLevelsFit.slots (Ab G.b)) (F0 m 0 ls []) := by
  intro S H locs ls h hO hS hl
  unfold wX7_areLevelsFit_s_b0 at h
  refine lv_aload_n C0.1 C0.2.1 dX7_areLevelsFit_0 rfl (lv_at hl 0 rfl) ?_
  obtain ⟨i1, h⟩ := h
  obtain ⟨a2, ea2, h⟩ := h
  refine g7_5 C0 hO i1 ea2 tb_140 dX7_areLevelsFit_1 ?_
  refine lv_iconst (v := 0) C0.1 C0.2.1 dX7_areLevelsFit_4 (by decide) ?_
  refine c_S C0 hO hS (mJ7_fill_53178 h) tb_132 tb_133 tb_32 tb_134 hd_J7_fill_53178 rfl ⟨⟨by decide, by decide⟩, by decide, by decide⟩ hl.1 rfl (Nat.le_of_ble_eq_true rfl) dX7_areLevelsFit_5 (kV (fun S3 H locs h hO hS => ?_))
  refine lv_iconst (v := 0) C0.1 C0.2.1 dX7_areLevelsFit_8 (by decide) ?_
  refine lv_istore_n C0.1 C0.2.1 dX7_areLevelsFit_9 rfl hl (by decide) rfl (fun ls hl => ?_)
  obtain ⟨n9, h⟩ := h
  exact lX7_areLevelsFit_s_b10 C0 Y n9 _ _ _ _ _ h hO hS (lv_sub hl [1, 2, 0] rfl)
def wX7_areLevelsFit_s (S : Hp) (x0 : Nat) (x1 : Nat) (Φ : Hp → Int32 → Prop) : Prop := wX7_areLevelsFit_s_b0 x0 x1 Φ S
set_option maxRecDepth 100000 in
theorem mX7_areLevelsFit_s {l : Launch} {G : Gw} {S : Hp} {x0 : Nat} {x1 : Nat} {Φ : Hp → Int32 → Prop} (h : wX7_areLevelsFit_s S x0 x1 Φ) : gM l yX7_areLevelsFit cX7_areLevelsFit 4 (some .boolean) rm_X7_areLevelsFit [.ref x0, .ref x1] G S (PI Φ) := by
  unfold gM
  refine Met.ofW (cc := cX7_areLevelsFit) (maxL := 4) (ret := (some .boolean)) (by decide) rfl ?_
  intro p e s m args below meth c s₁ B hml hv
  obtain ⟨rfl, hw⟩ := hv
  obtain ⟨C0, Y, hO⟩ := mx_of B hml hw
  have hS : va_S (Ab G.b) s.heap s.heap [] := va_S.rf
  have hl := lv_entry ([.ref x0, .ref x1]) (n := 4) (Nat.le_of_ble_eq_true rfl)
  rw [lg_entry_eq]
  generalize (lg_sl ([.ref x0, .ref x1]) ++ List.replicate (4 - (lg_sl ([.ref x0, .ref x1])).length) Slot.unset).toArray = ls at hl ⊢
  have hl : lv_has ls 4 [(0, .ref x0), (1, .ref x1)] := hl
  exact bX7_areLevelsFit_s_b0 C0 Y S _ _ _ h hO hS hl
def wX7_areLevelsFit (S : Hp) (x0 : Nat) (x1 : Option Nat) (Φ : Hp → Int32 → Prop) : Prop := match x1 with
  | none => wX7_areLevelsFit_n S x0 Φ
  | some a9 => wX7_areLevelsFit_s S x0 a9 Φ
theorem mX7_areLevelsFit {l : Launch} {G : Gw} {S : Hp} {x0 : Nat} {x1 : Option Nat} {Φ : Hp → Int32 → Prop} (h : wX7_areLevelsFit S x0 x1 Φ) : gM l yX7_areLevelsFit cX7_areLevelsFit 4 (some .boolean) rm_X7_areLevelsFit [.ref x0, va_rf x1] G S (PI Φ) := by
  cases x1 with
  | none => exact mX7_areLevelsFit_n h
  | some a9 => exact mX7_areLevelsFit_s h

def rm_X7_sortLinks : Room := { frames := 7, cells := 90, slots := 2160, locals := 191 }
def wX7_sortLinks_b61 (x0 : Nat) (Φ : Hp → Prop) (k9 : Hp → Int32 → Prop) (k16 : Hp → Int32 → Int32 → Prop) (S : Hp) (v1 : Int32) (v2 : Int32) : Prop := k16 S v1 (v2 + 1)
set_option maxHeartbeats 4000000 in
set_option maxRecDepth 100000 in
theorem bX7_sortLinks_b61 {p : Program} {l : Launch} {e : Env} {s : State} {m : MethodId} {args : Array Value} {below : List Frame} {meth : Method} {c : Code} {G : Gw} {x0 : Nat} {Φ : Hp → Prop} (C0 : Mx p s m c cX7_sortLinks 4 args yX7_sortLinks.cls G) (Y : My meth none) {n9_9 : Nat} {n9_16 : Nat} {k9 : Hp → Int32 → Prop} (hk9 : ∀ (S : Hp) (v1 : Int32) (H : Heap) (locs : List Loc) (ls : Array Slot) (cells slots : Nat), k9 S v1 → Ok G S H → va_S (Ab G.b) s.heap H locs → lv_has ls 4 [(0, .ref x0), (1, .int v1)] → cells + (n9_9 * 18 + 0) ≤ 90 → slots + (n9_9 * 432 + 0) ≤ 2160 → W p l e rm_X7_sortLinks s m args below meth c H locs cells slots (MQ below (gQ G (PV Φ)) args s rm_X7_sortLinks.cells rm_X7_sortLinks.slots (Ab G.b)) (F0 m 9 ls [])) {k16 : Hp → Int32 → Int32 → Prop} (hk16 : ∀ (S : Hp) (v1 : Int32) (v2 : Int32) (H : Heap) (locs : List Loc) (ls : Array Slot) (cells slots : Nat), k16 S v1 v2 → Ok G S H → va_S (Ab G.b) s.heap H locs → lv_has ls 4 [(0, .ref x0), (1, .int v1), (2, .int v2)] → cells + (n9_9 * 18 + n9_16 * 1 + 0) ≤ 90 → slots + (n9_9 * 432 + n9_16 * 24 + 0) ≤ 2160 → W p l e rm_X7_sortLinks s m args below meth c H locs cells slots (MQ below (gQ G (PV Φ)) args s rm_X7_sortLinks.cells rm_X7_sortLinks.slots (Ab G.b)) (F0 m 16 ls [])) : ∀ (S : Hp) (v1 : Int32) (v2 : Int32) (H : Heap) (locs : List Loc) (ls : Array Slot) (cells slots : Nat), wX7_sortLinks_b61 x0 Φ k9 k16 S v1 v2 → Ok G S H → va_S (Ab G.b) s.heap H locs → lv_has ls 4 [(0, .ref x0), (1, .int v1), (2, .int v2)] → cells + (n9_9 * 18 + n9_16 * 1 + 0) ≤ 90 → slots + (n9_9 * 432 + n9_16 * 24 + 0) ≤ 2160 → W p l e rm_X7_sortLinks s m args below meth c H locs cells slots (MQ below (gQ G (PV Φ)) args s rm_X7_sortLinks.cells rm_X7_sortLinks.slots (Ab G.b)) (F0 m 61 ls []) := by
  intro S v1 v2 H locs ls cells slots h hO hS hl hcc hss
  unfold wX7_sortLinks_b61 at h
  refine lv_iinc (v := _ + 1) C0.1 C0.2.1 dX7_sortLinks_61 hl (k := 2) rfl rfl (by decide) rfl (fun ls hl => ?_)
  refine lv_goto (tgt := 16) C0.1 C0.2.1 dX7_sortLinks_64 (by decide) ?_
  exact hk16 _ _ _ _ _ _ _ _ h hO hS (lv_sub hl [1, 2, 0] rfl) (by omega) (by omega)
def wX7_sortLinks_b16 (x0 : Nat) (Φ : Hp → Prop) (k9 : Hp → Int32 → Prop) (k16 : Hp → Int32 → Int32 → Prop) (S : Hp) (v1 : Int32) (v2 : Int32) : Prop := isA S x0 7 ∧ ∃ a2, S.FR 448 x0 = some a2 ∧ isA S a2 9 ∧ wJx4a65c_size_8abf5 S a2 (fun S3 r4 => ((r4 ≤ v2 → k9 S3 (v1 + 1)) ∧ (¬ (r4 ≤ v2) → isA S3 x0 7 ∧ ∃ a8, S3.FR 448 x0 = some a8 ∧ isA S3 a8 9 ∧ wJx4a65c_get_915e3 S3 a8 v2 (fun S9 r10 => ∃ a12, r10 = some a12 ∧ isA S9 a12 5 ∧ isA S9 x0 7 ∧ ∃ a15, S9.FR 453 x0 = some a15 ∧ isA S9 a15 21 ∧ vp_in (S9.FI 324 a12) (S9.N a15) ∧ ((¬ (S9.AI a15 ((S9.FI 324 a12).toNatClampNeg)) = v1 → wX7_sortLinks_b61 x0 Φ k9 k16 S9 v1 v2) ∧ ((S9.AI a15 ((S9.FI 324 a12).toNatClampNeg)) = v1 → ∃ a19, S9.FR 449 x0 = some a19 ∧ isA S9 a19 9 ∧ wJx4a65c_add_9ea2d S9 a19 a12 (fun S20 r21 => wX7_sortLinks_b61 x0 Φ k9 k16 S20 v1 v2)))))))
set_option maxHeartbeats 4000000 in
set_option maxRecDepth 100000 in
theorem bX7_sortLinks_b16 {p : Program} {l : Launch} {e : Env} {s : State} {m : MethodId} {args : Array Value} {below : List Frame} {meth : Method} {c : Code} {G : Gw} {x0 : Nat} {Φ : Hp → Prop} (C0 : Mx p s m c cX7_sortLinks 4 args yX7_sortLinks.cls G) (Y : My meth none) {n9_9 : Nat} {n9_16 : Nat} {k9 : Hp → Int32 → Prop} (hk9 : ∀ (S : Hp) (v1 : Int32) (H : Heap) (locs : List Loc) (ls : Array Slot) (cells slots : Nat), k9 S v1 → Ok G S H → va_S (Ab G.b) s.heap H locs → lv_has ls 4 [(0, .ref x0), (1, .int v1)] → cells + (n9_9 * 18 + 0) ≤ 90 → slots + (n9_9 * 432 + 0) ≤ 2160 → W p l e rm_X7_sortLinks s m args below meth c H locs cells slots (MQ below (gQ G (PV Φ)) args s rm_X7_sortLinks.cells rm_X7_sortLinks.slots (Ab G.b)) (F0 m 9 ls [])) {k16 : Hp → Int32 → Int32 → Prop} (hk16 : ∀ (S : Hp) (v1 : Int32) (v2 : Int32) (H : Heap) (locs : List Loc) (ls : Array Slot) (cells slots : Nat), k16 S v1 v2 → Ok G S H → va_S (Ab G.b) s.heap H locs → lv_has ls 4 [(0, .ref x0), (1, .int v1), (2, .int v2)] → cells + (n9_9 * 18 + n9_16 * 1 + 0) ≤ 90 → slots + (n9_9 * 432 + n9_16 * 24 + 0) ≤ 2160 → W p l e rm_X7_sortLinks s m args below meth c H locs cells slots (MQ below (gQ G (PV Φ)) args s rm_X7_sortLinks.cells rm_X7_sortLinks.slots (Ab G.b)) (F0 m 16 ls [])) : ∀ (S : Hp) (v1 : Int32) (v2 : Int32) (H : Heap) (locs : List Loc) (ls : Array Slot) (cells slots : Nat), wX7_sortLinks_b16 x0 Φ k9 k16 S v1 v2 → Ok G S H → va_S (Ab G.b) s.heap H locs → lv_has ls 4 [(0, .ref x0), (1, .int v1), (2, .int v2)] → cells + (n9_9 * 18 + n9_16 * 1 + 1) ≤ 90 → slots + (n9_9 * 432 + n9_16 * 24 + 24) ≤ 2160 → W p l e rm_X7_sortLinks s m args below meth c H locs cells slots (MQ below (gQ G (PV Φ)) args s rm_X7_sortLinks.cells rm_X7_sortLinks.slots (Ab G.b)) (F0 m 16 ls []) := by
  intro S v1 v2 H locs ls cells slots h hO hS hl hcc hss
  unfold wX7_sortLinks_b16 at h
  refine lv_iload_n C0.1 C0.2.1 dX7_sortLinks_16 rfl (lv_at hl 2 rfl) ?_
  refine lv_aload_n C0.1 C0.2.1 dX7_sortLinks_17 rfl (lv_at hl 0 rfl) ?_
  obtain ⟨i1, h⟩ := h
  obtain ⟨a2, ea2, h⟩ := h
  refine g7_0 C0 hO i1 ea2 tb_135 dX7_sortLinks_18 ?_
  obtain ⟨i5, h⟩ := h
  refine c_V C0 hO hS (mJx4a65c_size_8abf5 h) i5 (by decide) rfl rfl tb_204 tb_205 tb_206 tb_30 tb_207 hd_Jx4a65c_size_8abf5 rfl ⟨⟨by decide, by decide⟩, by show _ + 0 ≤ 90; omega, by show _ + 0 ≤ 2160; omega⟩ hl.1 rfl (Nat.le_of_ble_eq_true rfl) dX7_sortLinks_21 (kI (fun r4 S3 H locs h hO hS => ?_))
  change W _ _ _ _ _ _ _ _ _ _ _ _ (_ + 0) (_ + 0) _ _
  refine lv_icmp_ge (tgt := 67) C0.1 C0.2.1 dX7_sortLinks_24 (by decide) (fun c6 => ?_) (fun c6 => ?_)
  · have h := h.1 c6
    refine lv_iinc (v := _ + 1) C0.1 C0.2.1 dX7_sortLinks_67 hl (k := 1) rfl rfl (by decide) rfl (fun ls hl => ?_)
    refine lv_goto (tgt := 9) C0.1 C0.2.1 dX7_sortLinks_70 (by decide) ?_
    exact hk9 _ _ _ _ _ _ _ h hO hS (lv_sub hl [1, 0] rfl) (by omega) (by omega)
  · have h := h.2 c6
    refine lv_aload_n C0.1 C0.2.1 dX7_sortLinks_27 rfl (lv_at hl 0 rfl) ?_
    obtain ⟨i7, h⟩ := h
    obtain ⟨a8, ea8, h⟩ := h
    refine g7_0 C0 hO i7 ea8 tb_135 dX7_sortLinks_28 ?_
    refine lv_iload_n C0.1 C0.2.1 dX7_sortLinks_31 rfl (lv_at hl 2 rfl) ?_
    obtain ⟨i11, h⟩ := h
    refine c_V C0 hO hS (mJx4a65c_get_915e3 h) i11 (by decide) rfl rfl tb_280 tb_281 tb_282 tb_30 tb_283 hd_Jx4a65c_get_915e3 rfl ⟨⟨by decide, by decide⟩, by show _ + 0 ≤ 90; omega, by show _ + 0 ≤ 2160; omega⟩ hl.1 rfl (Nat.le_of_ble_eq_true rfl) dX7_sortLinks_32 (kR (fun r10 S9 H locs h hO hS => ?_))
    change W _ _ _ _ _ _ _ _ _ _ _ _ (_ + 0) (_ + 0) _ _
    obtain ⟨a12, ea12, h⟩ := h
    subst ea12
    change W _ _ _ _ _ _ _ _ _ _ _ _ _ _ _ (F0 _ _ _ (.ref a12 :: _))
    obtain ⟨i13, h⟩ := h
    refine r_castO C0 hO i13 (by decide) rfl tb_294 dX7_sortLinks_35 ?_
    refine lv_astore_n C0.1 C0.2.1 dX7_sortLinks_38 rfl hl (by decide) rfl (fun ls hl => ?_)
    refine lv_aload_n C0.1 C0.2.1 dX7_sortLinks_39 rfl (lv_at hl 1 rfl) ?_
    obtain ⟨i14, h⟩ := h
    obtain ⟨a15, ea15, h⟩ := h
    refine g7_5 C0 hO i14 ea15 tb_140 dX7_sortLinks_40 ?_
    refine lv_aload_n C0.1 C0.2.1 dX7_sortLinks_43 rfl (lv_at hl 0 rfl) ?_
    refine g5_4 C0 hO i13 tb_608 dX7_sortLinks_44 ?_
    obtain ⟨i16, h⟩ := h
    obtain ⟨e17, h⟩ := h
    refine r_iald C0 hO i16 e17 dX7_sortLinks_47 ?_
    refine lv_iload_n C0.1 C0.2.1 dX7_sortLinks_48 rfl (lv_at hl 2 rfl) ?_
    refine lv_icmp_ne (tgt := 61) C0.1 C0.2.1 dX7_sortLinks_49 (by decide) (fun c18 => ?_) (fun c18 => ?_)
    · have h := h.1 c18
      exact bX7_sortLinks_b61 C0 Y hk9 hk16 _ _ _ _ _ _ _ _ h hO hS (lv_sub hl [1, 2, 3] rfl) (by omega) (by omega)
    · have h := h.2 c18
      refine lv_aload_n C0.1 C0.2.1 dX7_sortLinks_52 rfl (lv_at hl 1 rfl) ?_
      obtain ⟨a19, ea19, h⟩ := h
      refine g7_1 C0 hO i14 ea19 tb_136 dX7_sortLinks_53 ?_
      refine lv_aload_n C0.1 C0.2.1 dX7_sortLinks_56 rfl (lv_at hl 0 rfl) ?_
      obtain ⟨i22, h⟩ := h
      refine c_V C0 hO hS (mJx4a65c_add_9ea2d h) i22 (by decide) rfl rfl tb_646 tb_647 tb_648 tb_30 tb_649 hd_Jx4a65c_add_9ea2d rfl ⟨⟨by decide, by decide⟩, by show _ + 1 ≤ 90; omega, by show _ + 24 ≤ 2160; omega⟩ hl.1 rfl (Nat.le_of_ble_eq_true rfl) dX7_sortLinks_57 (kI (fun r21 S20 H locs h hO hS => ?_))
      change W _ _ _ _ _ _ _ _ _ _ _ _ (_ + 1) (_ + 24) _ _
      refine lv_pop C0.1 C0.2.1 dX7_sortLinks_60 rfl ?_
      exact bX7_sortLinks_b61 C0 Y hk9 hk16 _ _ _ _ _ _ _ _ h hO hS (lv_sub hl [1, 2, 3] rfl) (by omega) (by omega)
set_option maxHeartbeats 4000000 in
set_option maxRecDepth 100000 in
theorem lX7_sortLinks_b16 {p : Program} {l : Launch} {e : Env} {s : State} {m : MethodId} {args : Array Value} {below : List Frame} {meth : Method} {c : Code} {G : Gw} {x0 : Nat} {Φ : Hp → Prop} (C0 : Mx p s m c cX7_sortLinks 4 args yX7_sortLinks.cls G) (Y : My meth none) {n9_9 : Nat} {k9 : Hp → Int32 → Prop} (hk9 : ∀ (S : Hp) (v1 : Int32) (H : Heap) (locs : List Loc) (ls : Array Slot) (cells slots : Nat), k9 S v1 → Ok G S H → va_S (Ab G.b) s.heap H locs → lv_has ls 4 [(0, .ref x0), (1, .int v1)] → cells + (n9_9 * 18 + 0) ≤ 90 → slots + (n9_9 * 432 + 0) ≤ 2160 → W p l e rm_X7_sortLinks s m args below meth c H locs cells slots (MQ below (gQ G (PV Φ)) args s rm_X7_sortLinks.cells rm_X7_sortLinks.slots (Ab G.b)) (F0 m 9 ls [])) : ∀ n9 : Nat, ∀ (S : Hp) (v1 : Int32) (v2 : Int32) (H : Heap) (locs : List Loc) (ls : Array Slot) (cells slots : Nat), it3 (wX7_sortLinks_b16 x0 Φ k9) n9 S v1 v2 → Ok G S H → va_S (Ab G.b) s.heap H locs → lv_has ls 4 [(0, .ref x0), (1, .int v1), (2, .int v2)] → cells + (n9_9 * 18 + n9 * 1 + 0) ≤ 90 → slots + (n9_9 * 432 + n9 * 24 + 0) ≤ 2160 → W p l e rm_X7_sortLinks s m args below meth c H locs cells slots (MQ below (gQ G (PV Φ)) args s rm_X7_sortLinks.cells rm_X7_sortLinks.slots (Ab G.b)) (F0 m 16 ls []) := by
  intro n9
  induction n9 with
  | zero => intro S v1 v2 H locs ls cells slots h; exact (h : False).elim
  | succ n9 ih => intro S v1 v2 H locs ls cells slots h hO hS hl hcc hss; exact bX7_sortLinks_b16 C0 Y (n9_16 := n9) hk9 ih S v1 v2 H locs ls cells slots h hO hS hl (by omega) (by omega)
def wX7_sortLinks_b9 (x0 : Nat) (Φ : Hp → Prop) (k9 : Hp → Int32 → Prop) (S : Hp) (v1 : Int32) : Prop := ((3 < v1 → Φ S) ∧ (¬ (3 < v1) → it3 (wX7_sortLinks_b16 x0 Φ k9) 18 S v1 0))
set_option maxHeartbeats 4000000 in
set_option maxRecDepth 100000 in
theorem bX7_sortLinks_b9 {p : Program} {l : Launch} {e : Env} {s : State} {m : MethodId} {args : Array Value} {below : List Frame} {meth : Method} {c : Code} {G : Gw} {x0 : Nat} {Φ : Hp → Prop} (C0 : Mx p s m c cX7_sortLinks 4 args yX7_sortLinks.cls G) (Y : My meth none) {n9_9 : Nat} {k9 : Hp → Int32 → Prop} (hk9 : ∀ (S : Hp) (v1 : Int32) (H : Heap) (locs : List Loc) (ls : Array Slot) (cells slots : Nat), k9 S v1 → Ok G S H → va_S (Ab G.b) s.heap H locs → lv_has ls 4 [(0, .ref x0), (1, .int v1)] → cells + (n9_9 * 18 + 0) ≤ 90 → slots + (n9_9 * 432 + 0) ≤ 2160 → W p l e rm_X7_sortLinks s m args below meth c H locs cells slots (MQ below (gQ G (PV Φ)) args s rm_X7_sortLinks.cells rm_X7_sortLinks.slots (Ab G.b)) (F0 m 9 ls [])) : ∀ (S : Hp) (v1 : Int32) (H : Heap) (locs : List Loc) (ls : Array Slot) (cells slots : Nat), wX7_sortLinks_b9 x0 Φ k9 S v1 → Ok G S H → va_S (Ab G.b) s.heap H locs → lv_has ls 4 [(0, .ref x0), (1, .int v1)] → cells + (n9_9 * 18 + 18) ≤ 90 → slots + (n9_9 * 432 + 432) ≤ 2160 → W p l e rm_X7_sortLinks s m args below meth c H locs cells slots (MQ below (gQ G (PV Φ)) args s rm_X7_sortLinks.cells rm_X7_sortLinks.slots (Ab G.b)) (F0 m 9 ls []) := by
  intro S v1 H locs ls cells slots h hO hS hl hcc hss
  unfold wX7_sortLinks_b9 at h
  refine lv_iload_n C0.1 C0.2.1 dX7_sortLinks_9 rfl (lv_at hl 1 rfl) ?_
  refine lv_iconst (v := 3) C0.1 C0.2.1 dX7_sortLinks_10 (by decide) ?_
  refine lv_icmp_gt (tgt := 73) C0.1 C0.2.1 dX7_sortLinks_11 (by decide) (fun c1 => ?_) (fun c1 => ?_)
  · have h := h.1 c1
    exact e_V C0 Y hO hS h (by show _ ≤ 90; omega) (by show _ ≤ 2160; omega) dX7_sortLinks_73
  · have h := h.2 c1
    refine lv_iconst (v := 0) C0.1 C0.2.1 dX7_sortLinks_14 (by decide) ?_
    refine lv_istore_n C0.1 C0.2.1 dX7_sortLinks_15 rfl hl (by decide) rfl (fun ls hl => ?_)
    exact lX7_sortLinks_b16 C0 Y hk9 18 _ _ _ _ _ _ _ _ h hO hS (lv_sub hl [1, 2, 0] rfl) (by omega) (by omega)
set_option maxHeartbeats 4000000 in
set_option maxRecDepth 100000 in
theorem lX7_sortLinks_b9 {p : Program} {l : Launch} {e : Env} {s : State} {m : MethodId} {args : Array Value} {below : List Frame} {meth : Method} {c : Code} {G : Gw} {x0 : Nat} {Φ : Hp → Prop} (C0 : Mx p s m c cX7_sortLinks 4 args yX7_sortLinks.cls G) (Y : My meth none)  : ∀ n9 : Nat, ∀ (S : Hp) (v1 : Int32) (H : Heap) (locs : List Loc) (ls : Array Slot) (cells slots : Nat), it2 (wX7_sortLinks_b9 x0 Φ) n9 S v1 → Ok G S H → va_S (Ab G.b) s.heap H locs → lv_has ls 4 [(0, .ref x0), (1, .int v1)] → cells + (n9 * 18 + 0) ≤ 90 → slots + (n9 * 432 + 0) ≤ 2160 → W p l e rm_X7_sortLinks s m args below meth c H locs cells slots (MQ below (gQ G (PV Φ)) args s rm_X7_sortLinks.cells rm_X7_sortLinks.slots (Ab G.b)) (F0 m 9 ls []) := by
  intro n9
  induction n9 with
  | zero => intro S v1 H locs ls cells slots h; exact (h : False).elim
  | succ n9 ih => intro S v1 H locs ls cells slots h hO hS hl hcc hss; exact bX7_sortLinks_b9 C0 Y (n9_9 := n9) ih S v1 H locs ls cells slots h hO hS hl (by omega) (by omega)
def wX7_sortLinks_b0 (x0 : Nat) (Φ : Hp → Prop) (S : Hp) : Prop := isA S x0 7 ∧ ∃ a2, S.FR 449 x0 = some a2 ∧ isA S a2 9 ∧ wJx4a65c_clear_da8c8 S a2 (fun S3 => it2 (wX7_sortLinks_b9 x0 Φ) 5 S3 1)
set_option maxHeartbeats 4000000 in
set_option maxRecDepth 100000 in
theorem bX7_sortLinks_b0 {p : Program} {l : Launch} {e : Env} {s : State} {m : MethodId} {args : Array Value} {below : List Frame} {meth : Method} {c : Code} {G : Gw} {x0 : Nat} {Φ : Hp → Prop} (C0 : Mx p s m c cX7_sortLinks 4 args yX7_sortLinks.cls G) (Y : My meth none)  : ∀ (S : Hp) (H : Heap) (locs : List Loc) (ls : Array Slot) (cells slots : Nat), wX7_sortLinks_b0 x0 Φ S → Ok G S H → va_S (Ab G.b) s.heap H locs → lv_has ls 4 [(0, .ref x0)] → cells + (90) ≤ 90 → slots + (2160) ≤ 2160 → W p l e rm_X7_sortLinks s m args below meth c H locs cells slots (MQ below (gQ G (PV Φ)) args s rm_X7_sortLinks.cells rm_X7_sortLinks.slots (Ab G.b)) (F0 m 0 ls []) := by
  intro S H locs ls cells slots h hO hS hl hcc hss
  unfold wX7_sortLinks_b0 at h
  refine lv_aload_n C0.1 C0.2.1 dX7_sortLinks_0 rfl (lv_at hl 0 rfl) ?_
  obtain ⟨i1, h⟩ := h
  obtain ⟨a2, ea2, h⟩ := h
  refine g7_1 C0 hO i1 ea2 tb_136 dX7_sortLinks_1 ?_
  obtain ⟨i4, h⟩ := h
  refine c_V C0 hO hS (mJx4a65c_clear_da8c8 h) i4 (by decide) rfl rfl tb_712 tb_713 tb_714 tb_30 tb_715 hd_Jx4a65c_clear_da8c8 rfl ⟨⟨by decide, by decide⟩, by show _ + 0 ≤ 90; omega, by show _ + 0 ≤ 2160; omega⟩ hl.1 rfl (Nat.le_of_ble_eq_true rfl) dX7_sortLinks_4 (kV (fun S3 H locs h hO hS => ?_))
  change W _ _ _ _ _ _ _ _ _ _ _ _ (_ + 0) (_ + 0) _ _
  refine lv_iconst (v := 1) C0.1 C0.2.1 dX7_sortLinks_7 (by decide) ?_
  refine lv_istore_n C0.1 C0.2.1 dX7_sortLinks_8 rfl hl (by decide) rfl (fun ls hl => ?_)
  exact lX7_sortLinks_b9 C0 Y 5 _ _ _ _ _ _ _ h hO hS (lv_sub hl [1, 0] rfl) (by omega) (by omega)
def wX7_sortLinks (S : Hp) (x0 : Nat) (Φ : Hp → Prop) : Prop := wX7_sortLinks_b0 x0 Φ S
set_option maxRecDepth 100000 in
theorem mX7_sortLinks {l : Launch} {G : Gw} {S : Hp} {x0 : Nat} {Φ : Hp → Prop} (h : wX7_sortLinks S x0 Φ) : gM l yX7_sortLinks cX7_sortLinks 4 none rm_X7_sortLinks [.ref x0] G S (PV Φ) := by
  unfold gM
  refine Met.ofW (cc := cX7_sortLinks) (maxL := 4) (ret := none) (by decide) rfl ?_
  intro p e s m args below meth c s₁ B hml hv
  obtain ⟨rfl, hw⟩ := hv
  obtain ⟨C0, Y, hO⟩ := mx_of B hml hw
  have hS : va_S (Ab G.b) s.heap s.heap [] := va_S.rf
  have hl := lv_entry ([.ref x0]) (n := 4) (Nat.le_of_ble_eq_true rfl)
  rw [lg_entry_eq]
  generalize (lg_sl ([.ref x0]) ++ List.replicate (4 - (lg_sl ([.ref x0])).length) Slot.unset).toArray = ls at hl ⊢
  have hl : lv_has ls 4 [(0, .ref x0)] := hl
  exact bX7_sortLinks_b0 C0 Y S _ _ _ 0 0 h hO hS hl (by decide) (by decide)

def rm_X7_addLink : Room := { frames := 8, cells := 91, slots := 2184, locals := 214 }
def wX7_addLink_b0 (x0 : Nat) (x1 : Nat) (Φ : Hp → Int32 → Prop) (Ψ : Hp → String → Prop) (S : Hp) : Prop := isA S x0 7 ∧ ∃ a2, S.FR 452 x0 = some a2 ∧ isA S x1 5 ∧ isA S a2 21 ∧ vp_in (S.FI 324 x1) (S.N a2) ∧ (((S.AI a2 ((S.FI 324 x1).toNatClampNeg)) = (-1) → wX7_areLevelsFit S x0 (some x1) (fun S7 r8 => ((¬ r8 = 0 → isA S7 x0 7 ∧ ∃ a11, S7.FR 448 x0 = some a11 ∧ isA S7 a11 9 ∧ wJx4a65c_size_8abf5 S7 a11 (fun S12 r13 => ((r13 < 16 → isA S12 x0 7 ∧ ∃ a17, S12.FR 448 x0 = some a17 ∧ isA S12 a17 9 ∧ wJx4a65c_add_9ea2d S12 a17 x1 (fun S18 r19 => isA S18 x0 7 ∧ ∃ a22, S18.FR 452 x0 = some a22 ∧ isA S18 x1 5 ∧ isA S18 a22 21 ∧ vp_in (S18.FI 324 x1) (S18.N a22) ∧ ∀ S26, S26 = S18.setAI a22 ((S18.FI 324 x1).toNatClampNeg) (S18.FI 320 x1) → ∃ a27, S26.FR 458 x0 = some a27 ∧ isA S26 a27 6 ∧ wX6_begin S26 a27 x1 (fun S28 => isA S28 x0 7 ∧ wX7_sortLinks S28 x0 (fun S30 => isA S30 x1 5 ∧ Φ S30 (S30.FI 320 x1))))) ∧ (¬ (r13 < 16) → Ψ S12 "java/lang/IllegalStateException")))) ∧ (r8 = 0 → Ψ S7 "java/lang/UnsupportedOperationException")))) ∧ (¬ ((S.AI a2 ((S.FI 324 x1).toNatClampNeg)) = (-1)) → Ψ S "java/lang/UnsupportedOperationException"))
set_option maxHeartbeats 4000000 in
set_option maxRecDepth 100000 in
theorem bX7_addLink_b0 {p : Program} {l : Launch} {e : Env} {s : State} {m : MethodId} {args : Array Value} {below : List Frame} {meth : Method} {c : Code} {G : Gw} {x0 : Nat} {x1 : Nat} {Φ : Hp → Int32 → Prop} {Ψ : Hp → String → Prop} (C0 : Mx p s m c cX7_addLink 2 args yX7_addLink.cls G) (Y : My meth (some .int)) (hl9 : l.stackTraces = false) (hx9 : ∀ x ∈ c.exceptionTable.toList, False)  : ∀ (S : Hp) (H : Heap) (locs : List Loc) (ls : Array Slot) (cells slots : Nat), wX7_addLink_b0 x0 x1 Φ Ψ S → Ok G S H → va_S (Ab G.b) s.heap H locs → lv_has ls 2 [(0, .ref x0), (1, .ref x1)] → cells + (91) ≤ 91 → slots + (2184) ≤ 2184 → W p l e rm_X7_addLink s m args below meth c H locs cells slots (vx_MQ below (gQ G (PI Φ)) (gX G Ψ) args s rm_X7_addLink.cells rm_X7_addLink.slots (Ab G.b)) (F0 m 0 ls []) := by
  intro S H locs ls cells slots h hO hS hl hcc hss
  unfold wX7_addLink_b0 at h
  refine lv_aload_n C0.1 C0.2.1 dX7_addLink_0 rfl (lv_at hl 0 rfl) ?_
  obtain ⟨i1, h⟩ := h
  obtain ⟨a2, ea2, h⟩ := h
  refine g7_4 C0 hO i1 ea2 tb_139 dX7_addLink_1 ?_
  refine lv_aload_n C0.1 C0.2.1 dX7_addLink_4 rfl (lv_at hl 1 rfl) ?_
  obtain ⟨i3, h⟩ := h
  refine g5_4 C0 hO i3 tb_608 dX7_addLink_5 ?_
  obtain ⟨i4, h⟩ := h
  obtain ⟨e5, h⟩ := h
  refine r_iald C0 hO i4 e5 dX7_addLink_8 ?_
  refine lv_iconst (v := (-1)) C0.1 C0.2.1 dX7_addLink_9 (by decide) ?_
  refine lv_icmp_eq (tgt := 23) C0.1 C0.2.1 dX7_addLink_10 (by decide) (fun c6 => ?_) (fun c6 => ?_)
  · have h := h.1 c6
    refine lv_aload_n C0.1 C0.2.1 dX7_addLink_23 rfl (lv_at hl 0 rfl) ?_
    refine lv_aload_n C0.1 C0.2.1 dX7_addLink_24 rfl (lv_at hl 1 rfl) ?_
    refine c_V C0 hO hS (mX7_areLevelsFit h) i1 (by decide) rfl rfl tb_439 tb_441 tb_9 tb_27 tb_442 hd_X7_areLevelsFit rfl ⟨⟨by decide, by decide⟩, by show _ + 0 ≤ 91; omega, by show _ + 0 ≤ 2184; omega⟩ hl.1 rfl (Nat.le_of_ble_eq_true rfl) dX7_addLink_25 (kI (fun r8 S7 H locs h hO hS => ?_))
    change W _ _ _ _ _ _ _ _ _ _ _ _ (_ + 0) (_ + 0) _ _
    refine lv_if_ne (tgt := 42) C0.1 C0.2.1 dX7_addLink_28 (by decide) (fun c9 => ?_) (fun c9 => ?_)
    · have h := h.1 c9
      refine lv_aload_n C0.1 C0.2.1 dX7_addLink_42 rfl (lv_at hl 0 rfl) ?_
      obtain ⟨i10, h⟩ := h
      obtain ⟨a11, ea11, h⟩ := h
      refine g7_0 C0 hO i10 ea11 tb_135 dX7_addLink_43 ?_
      obtain ⟨i14, h⟩ := h
      refine c_V C0 hO hS (mJx4a65c_size_8abf5 h) i14 (by decide) rfl rfl tb_204 tb_205 tb_206 tb_30 tb_207 hd_Jx4a65c_size_8abf5 rfl ⟨⟨by decide, by decide⟩, by show _ + 0 ≤ 91; omega, by show _ + 0 ≤ 2184; omega⟩ hl.1 rfl (Nat.le_of_ble_eq_true rfl) dX7_addLink_46 (kI (fun r13 S12 H locs h hO hS => ?_))
      change W _ _ _ _ _ _ _ _ _ _ _ _ (_ + 0) (_ + 0) _ _
      refine lv_bipush (v := 16) C0.1 C0.2.1 dX7_addLink_49 (by decide) ?_
      refine lv_icmp_lt (tgt := 65) C0.1 C0.2.1 dX7_addLink_51 (by decide) (fun c15 => ?_) (fun c15 => ?_)
      · have h := h.1 c15
        refine lv_aload_n C0.1 C0.2.1 dX7_addLink_65 rfl (lv_at hl 0 rfl) ?_
        obtain ⟨i16, h⟩ := h
        obtain ⟨a17, ea17, h⟩ := h
        refine g7_0 C0 hO i16 ea17 tb_135 dX7_addLink_66 ?_
        refine lv_aload_n C0.1 C0.2.1 dX7_addLink_69 rfl (lv_at hl 1 rfl) ?_
        obtain ⟨i20, h⟩ := h
        refine c_V C0 hO hS (mJx4a65c_add_9ea2d h) i20 (by decide) rfl rfl tb_646 tb_647 tb_648 tb_30 tb_649 hd_Jx4a65c_add_9ea2d rfl ⟨⟨by decide, by decide⟩, by show _ + 1 ≤ 91; omega, by show _ + 24 ≤ 2184; omega⟩ hl.1 rfl (Nat.le_of_ble_eq_true rfl) dX7_addLink_70 (kI (fun r19 S18 H locs h hO hS => ?_))
        change W _ _ _ _ _ _ _ _ _ _ _ _ (_ + 1) (_ + 24) _ _
        refine lv_pop C0.1 C0.2.1 dX7_addLink_73 rfl ?_
        refine lv_aload_n C0.1 C0.2.1 dX7_addLink_74 rfl (lv_at hl 0 rfl) ?_
        obtain ⟨i21, h⟩ := h
        obtain ⟨a22, ea22, h⟩ := h
        refine g7_4 C0 hO i21 ea22 tb_139 dX7_addLink_75 ?_
        refine lv_aload_n C0.1 C0.2.1 dX7_addLink_78 rfl (lv_at hl 1 rfl) ?_
        obtain ⟨i23, h⟩ := h
        refine g5_4 C0 hO i23 tb_608 dX7_addLink_79 ?_
        refine lv_aload_n C0.1 C0.2.1 dX7_addLink_82 rfl (lv_at hl 1 rfl) ?_
        refine g5_0 C0 hO i23 tb_597 dX7_addLink_83 ?_
        obtain ⟨i24, h⟩ := h
        obtain ⟨e25, h⟩ := h
        refine r_iast C0 hO hS i24 e25 dX7_addLink_86 (fun H locs hO hS => ?_)
        have h := h _ rfl
        refine lv_aload_n C0.1 C0.2.1 dX7_addLink_87 rfl (lv_at hl 0 rfl) ?_
        obtain ⟨a27, ea27, h⟩ := h
        refine g7_10 C0 hO (sA_AI i21) ea27 tb_145 dX7_addLink_88 ?_
        refine lv_aload_n C0.1 C0.2.1 dX7_addLink_91 rfl (lv_at hl 1 rfl) ?_
        obtain ⟨i29, h⟩ := h
        refine c_V C0 hO hS (mX6_begin h) i29 (by decide) rfl rfl tb_700 tb_701 tb_702 tb_33 tb_703 hd_X6_begin rfl ⟨⟨by decide, by decide⟩, by show _ + 0 ≤ 91; omega, by show _ + 0 ≤ 2184; omega⟩ hl.1 rfl (Nat.le_of_ble_eq_true rfl) dX7_addLink_92 (kV (fun S28 H locs h hO hS => ?_))
        change W _ _ _ _ _ _ _ _ _ _ _ _ (_ + 0) (_ + 0) _ _
        refine lv_aload_n C0.1 C0.2.1 dX7_addLink_95 rfl (lv_at hl 0 rfl) ?_
        obtain ⟨i31, h⟩ := h
        refine c_V C0 hO hS (mX7_sortLinks h) i31 (by decide) rfl rfl tb_708 tb_710 tb_19 tb_27 tb_711 hd_X7_sortLinks rfl ⟨⟨by decide, by decide⟩, by show _ + 90 ≤ 91; omega, by show _ + 2160 ≤ 2184; omega⟩ hl.1 rfl (Nat.le_of_ble_eq_true rfl) dX7_addLink_96 (kV (fun S30 H locs h hO hS => ?_))
        change W _ _ _ _ _ _ _ _ _ _ _ _ (_ + 90) (_ + 2160) _ _
        refine lv_aload_n C0.1 C0.2.1 dX7_addLink_99 rfl (lv_at hl 1 rfl) ?_
        obtain ⟨i32, h⟩ := h
        refine g5_0 C0 hO i32 tb_597 dX7_addLink_100 ?_
        refine vx_ret ?_
        exact e_I C0 Y hO hS h (by show _ ≤ 91; omega) (by show _ ≤ 2184; omega) dX7_addLink_103
      · have h := h.2 c15
        exact t_W (text := "there are 16 links") (names := xnm) C0 hl9 Y.2 hx9 hO hS xf_IllegalStateException xnm_ok tb_500 tb_47 (by decide +kernel) xat_81 xgd_8100077 hl.1 h dX7_addLink_54 dX7_addLink_57 dX7_addLink_58 dX7_addLink_61 dX7_addLink_64 (Nat.le_of_ble_eq_true rfl) (Nat.le_of_ble_eq_true rfl) (by show _ ≤ 91; omega) (by show _ ≤ 2184; omega) (by show _ ≤ 91; omega) (by show _ ≤ 2184; omega)
    · have h := h.2 c9
      exact t_W (text := "a shaft would be round, or too far behind") (names := xnm) C0 hl9 Y.2 hx9 hO hS xf_UnsupportedOperationException xnm_ok tb_574 tb_41 (by decide +kernel) xat_100 xgd_10000096 hl.1 h dX7_addLink_31 dX7_addLink_34 dX7_addLink_35 dX7_addLink_38 dX7_addLink_41 (Nat.le_of_ble_eq_true rfl) (Nat.le_of_ble_eq_true rfl) (by show _ ≤ 91; omega) (by show _ ≤ 2184; omega) (by show _ ≤ 91; omega) (by show _ ≤ 2184; omega)
  · have h := h.2 c6
    exact t_S (text := "the shaft is driven") (names := xnm) C0 hl9 Y.2 hx9 hO hS xf_UnsupportedOperationException xnm_ok tb_574 tb_41 (by decide +kernel) xat_100 xgd_10000096 hl.1 h dX7_addLink_13 dX7_addLink_16 dX7_addLink_17 dX7_addLink_19 dX7_addLink_22 (Nat.le_of_ble_eq_true rfl) (Nat.le_of_ble_eq_true rfl) (by show _ ≤ 91; omega) (by show _ ≤ 2184; omega) (by show _ ≤ 91; omega) (by show _ ≤ 2184; omega)
def wX7_addLink (S : Hp) (x0 : Nat) (x1 : Nat) (Φ : Hp → Int32 → Prop) (Ψ : Hp → String → Prop) : Prop := wX7_addLink_b0 x0 x1 Φ Ψ S
set_option maxRecDepth 100000 in
theorem mX7_addLink {l : Launch} {G : Gw} (hl9 : l.stackTraces = false) {S : Hp} {x0 : Nat} {x1 : Nat} {Φ : Hp → Int32 → Prop} {Ψ : Hp → String → Prop} (h : wX7_addLink S x0 x1 Φ Ψ) : gT l yX7_addLink cX7_addLink 2 (some .int) rm_X7_addLink [.ref x0, .ref x1] G S (PI Φ) Ψ := by
  unfold gT
  refine vx_ofW (cc := cX7_addLink) (maxL := 2) (ret := (some .int)) (by decide) rfl ?_
  intro p e s m args below meth c s₁ B hml hx9 hv
  obtain ⟨rfl, hw⟩ := hv
  obtain ⟨C0, Y, hO⟩ := mx_of B hml hw
  have hS : va_S (Ab G.b) s.heap s.heap [] := va_S.rf
  have hl := lv_entry ([.ref x0, .ref x1]) (n := 2) (Nat.le_of_ble_eq_true rfl)
  rw [lg_entry_eq]
  generalize (lg_sl ([.ref x0, .ref x1]) ++ List.replicate (2 - (lg_sl ([.ref x0, .ref x1])).length) Slot.unset).toArray = ls at hl ⊢
  have hl : lv_has ls 2 [(0, .ref x0), (1, .ref x1)] := hl
  exact bX7_addLink_b0 C0 Y hl9 hx9 S _ _ _ 0 0 h hO hS hl (by decide) (by decide)

def rm_X7_link : Room := { frames := 9, cells := 94, slots := 2207, locals := 235 }
def wX7_link_b0 (x0 : Nat) (x1 : Int32) (x2 : Int32) (x3 : Int32) (x4 : Int32) (x5 : Int32) (Φ : Hp → Int32 → Prop) (Ψ : Hp → String → Prop) (S : Hp) : Prop := isA S x0 7 ∧ wX7_checkShaft S x0 x2 (fun S1 => isA S1 x0 7 ∧ wX7_checkShaft S1 x0 x3 (fun S3 => wX7_hasMeaning S3 x1 x4 x5 (fun S5 r6 => ((¬ r6 = 0 → ((¬ x2 = x3 → ∀ a9 S10, a9 ∉ S5.L → S10 = S5.new a9 5 0 → isA S10 x0 7 ∧ ∃ a12, S10.FR 448 x0 = some a12 ∧ isA S10 a12 9 ∧ wJx4a65c_size_8abf5 S10 a12 (fun S13 r14 => wX5_init S13 a9 r14 x1 x2 (-1) x3 x4 x5 (fun S16 => isA S16 x0 7 ∧ wX7_addLink S16 x0 a9 (fun S17 r18 => Φ S17 r18) Ψ))) ∧ (x2 = x3 → Ψ S5 "java/lang/UnsupportedOperationException"))) ∧ (r6 = 0 → Ψ S5 "java/lang/IllegalArgumentException")))) Ψ) Ψ
set_option maxHeartbeats 4000000 in
set_option maxRecDepth 100000 in
theorem bX7_link_b0 {p : Program} {l : Launch} {e : Env} {s : State} {m : MethodId} {args : Array Value} {below : List Frame} {meth : Method} {c : Code} {G : Gw} {x0 : Nat} {x1 : Int32} {x2 : Int32} {x3 : Int32} {x4 : Int32} {x5 : Int32} {Φ : Hp → Int32 → Prop} {Ψ : Hp → String → Prop} (C0 : Mx p s m c cX7_link 6 args yX7_link.cls G) (Y : My meth (some .int)) (hl9 : l.stackTraces = false) (hx9 : ∀ x ∈ c.exceptionTable.toList, False)  : ∀ (S : Hp) (H : Heap) (locs : List Loc) (ls : Array Slot) (cells slots : Nat), wX7_link_b0 x0 x1 x2 x3 x4 x5 Φ Ψ S → Ok G S H → va_S (Ab G.b) s.heap H locs → lv_has ls 6 [(0, .ref x0), (1, .int x1), (2, .int x2), (3, .int x3), (4, .int x4), (5, .int x5)] → cells + (94) ≤ 94 → slots + (2207) ≤ 2207 → W p l e rm_X7_link s m args below meth c H locs cells slots (vx_MQ below (gQ G (PI Φ)) (gX G Ψ) args s rm_X7_link.cells rm_X7_link.slots (Ab G.b)) (F0 m 0 ls []) := by
  intro S H locs ls cells slots h hO hS hl hcc hss
  unfold wX7_link_b0 at h
  refine lv_aload_n C0.1 C0.2.1 dX7_link_0 rfl (lv_at hl 0 rfl) ?_
  refine lv_iload_n C0.1 C0.2.1 dX7_link_1 rfl (lv_at hl 2 rfl) ?_
  obtain ⟨i2, h⟩ := h
  refine x_V C0 Y.2 hx9 hO hS (mX7_checkShaft hl9 h) i2 (by decide) rfl rfl tb_547 tb_549 tb_14 tb_27 tb_550 hd_X7_checkShaft rfl ⟨⟨by decide, by decide⟩, by show _ + 1 ≤ 94; omega, by show _ + 6 ≤ 2207; omega⟩ hl.1 rfl (Nat.le_of_ble_eq_true rfl) dX7_link_2 (by show _ + 1 ≤ 94; omega) (by show _ + 6 ≤ 2207; omega) (kV (fun S1 H locs h hO hS => ?_))
  change W _ _ _ _ _ _ _ _ _ _ _ _ (_ + 1) (_ + 6) _ _
  refine lv_aload_n C0.1 C0.2.1 dX7_link_5 rfl (lv_at hl 0 rfl) ?_
  refine lv_iload_n C0.1 C0.2.1 dX7_link_6 rfl (lv_at hl 3 rfl) ?_
  obtain ⟨i4, h⟩ := h
  refine x_V C0 Y.2 hx9 hO hS (mX7_checkShaft hl9 h) i4 (by decide) rfl rfl tb_547 tb_549 tb_14 tb_27 tb_550 hd_X7_checkShaft rfl ⟨⟨by decide, by decide⟩, by show _ + 1 ≤ 94; omega, by show _ + 6 ≤ 2207; omega⟩ hl.1 rfl (Nat.le_of_ble_eq_true rfl) dX7_link_7 (by show _ + 1 ≤ 94; omega) (by show _ + 6 ≤ 2207; omega) (kV (fun S3 H locs h hO hS => ?_))
  change W _ _ _ _ _ _ _ _ _ _ _ _ (_ + 1) (_ + 6) _ _
  refine lv_iload_n C0.1 C0.2.1 dX7_link_10 rfl (lv_at hl 1 rfl) ?_
  refine lv_iload C0.1 C0.2.1 dX7_link_11 (lv_at hl 4 rfl) ?_
  refine lv_iload C0.1 C0.2.1 dX7_link_13 (lv_at hl 5 rfl) ?_
  refine c_S C0 hO hS (mX7_hasMeaning h) tb_552 tb_553 tb_27 tb_554 hd_X7_hasMeaning rfl ⟨⟨by decide, by decide⟩, by show _ + 0 ≤ 94; omega, by show _ + 0 ≤ 2207; omega⟩ hl.1 rfl (Nat.le_of_ble_eq_true rfl) dX7_link_15 (kI (fun r6 S5 H locs h hO hS => ?_))
  change W _ _ _ _ _ _ _ _ _ _ _ _ (_ + 0) (_ + 0) _ _
  refine lv_if_ne (tgt := 31) C0.1 C0.2.1 dX7_link_18 (by decide) (fun c7 => ?_) (fun c7 => ?_)
  · have h := h.1 c7
    refine lv_iload_n C0.1 C0.2.1 dX7_link_31 rfl (lv_at hl 2 rfl) ?_
    refine lv_iload_n C0.1 C0.2.1 dX7_link_32 rfl (lv_at hl 3 rfl) ?_
    refine lv_icmp_ne (tgt := 46) C0.1 C0.2.1 dX7_link_33 (by decide) (fun c8 => ?_) (fun c8 => ?_)
    · have h := h.1 c8
      refine lv_aload_n C0.1 C0.2.1 dX7_link_46 rfl (lv_at hl 0 rfl) ?_
      refine n_5 C0 hO hS tb_294 tb_590 tb_48 (by show _ ≤ 94; omega) (by show _ ≤ 2207; omega) dX7_link_47 (fun a9 H hna9 hO hS => ?_)
      have h := h a9 _ hna9 rfl
      refine lv_dup C0.1 C0.2.1 dX7_link_50 rfl ?_
      refine lv_aload_n C0.1 C0.2.1 dX7_link_51 rfl (lv_at hl 0 rfl) ?_
      obtain ⟨i11, h⟩ := h
      obtain ⟨a12, ea12, h⟩ := h
      refine g7_0 C0 hO i11 ea12 tb_135 dX7_link_52 ?_
      obtain ⟨i15, h⟩ := h
      refine c_V C0 hO hS (mJx4a65c_size_8abf5 h) i15 (by decide) rfl rfl tb_204 tb_205 tb_206 tb_30 tb_207 hd_Jx4a65c_size_8abf5 rfl ⟨⟨by decide, by decide⟩, by show _ + 0 ≤ 94; omega, by show _ + 0 ≤ 2207; omega⟩ hl.1 rfl (Nat.le_of_ble_eq_true rfl) dX7_link_55 (kI (fun r14 S13 H locs h hO hS => ?_))
      change W _ _ _ _ _ _ _ _ _ _ _ _ (_ + 0) (_ + 0) _ _
      refine lv_iload_n C0.1 C0.2.1 dX7_link_58 rfl (lv_at hl 1 rfl) ?_
      refine lv_iload_n C0.1 C0.2.1 dX7_link_59 rfl (lv_at hl 2 rfl) ?_
      refine lv_iconst (v := (-1)) C0.1 C0.2.1 dX7_link_60 (by decide) ?_
      refine lv_iload_n C0.1 C0.2.1 dX7_link_61 rfl (lv_at hl 3 rfl) ?_
      refine lv_iload C0.1 C0.2.1 dX7_link_62 (lv_at hl 4 rfl) ?_
      refine lv_iload C0.1 C0.2.1 dX7_link_64 (lv_at hl 5 rfl) ?_
      refine c_I C0 hO hS (mX5_init h) tb_591 tb_592 tb_48 tb_593 rfl hd_X5_init rfl ⟨⟨by decide, by decide⟩, by show _ + 0 ≤ 94; omega, by show _ + 0 ≤ 2207; omega⟩ hl.1 rfl (Nat.le_of_ble_eq_true rfl) dX7_link_66 (kV (fun S16 H locs h hO hS => ?_))
      change W _ _ _ _ _ _ _ _ _ _ _ _ (_ + 0) (_ + 0) _ _
      obtain ⟨i19, h⟩ := h
      refine x_V C0 Y.2 hx9 hO hS (mX7_addLink hl9 h) i19 (by decide) rfl rfl tb_639 tb_641 tb_15 tb_27 tb_642 hd_X7_addLink rfl ⟨⟨by decide, by decide⟩, by show _ + 91 ≤ 94; omega, by show _ + 2184 ≤ 2207; omega⟩ hl.1 rfl (Nat.le_of_ble_eq_true rfl) dX7_link_69 (by show _ + 91 ≤ 94; omega) (by show _ + 2184 ≤ 2207; omega) (kI (fun r18 S17 H locs h hO hS => ?_))
      change W _ _ _ _ _ _ _ _ _ _ _ _ (_ + 91) (_ + 2184) _ _
      refine vx_ret ?_
      exact e_I C0 Y hO hS h (by show _ ≤ 94; omega) (by show _ ≤ 2207; omega) dX7_link_72
    · have h := h.2 c8
      exact t_S (text := "both shafts are the same") (names := xnm) C0 hl9 Y.2 hx9 hO hS xf_UnsupportedOperationException xnm_ok tb_574 tb_41 (by decide +kernel) xat_100 xgd_10000096 hl.1 h dX7_link_36 dX7_link_39 dX7_link_40 dX7_link_42 dX7_link_45 (Nat.le_of_ble_eq_true rfl) (Nat.le_of_ble_eq_true rfl) (by show _ ≤ 94; omega) (by show _ ≤ 2207; omega) (by show _ ≤ 94; omega) (by show _ ≤ 2207; omega)
  · have h := h.2 c7
    exact t_S (text := "no such kind, or a number is out of range") (names := xnm) C0 hl9 Y.2 hx9 hO hS xf_IllegalArgumentException xnm_ok tb_558 tb_40 (by decide +kernel) xat_95 xgd_9500091 hl.1 h dX7_link_21 dX7_link_24 dX7_link_25 dX7_link_27 dX7_link_30 (Nat.le_of_ble_eq_true rfl) (Nat.le_of_ble_eq_true rfl) (by show _ ≤ 94; omega) (by show _ ≤ 2207; omega) (by show _ ≤ 94; omega) (by show _ ≤ 2207; omega)
def wX7_link (S : Hp) (x0 : Nat) (x1 : Int32) (x2 : Int32) (x3 : Int32) (x4 : Int32) (x5 : Int32) (Φ : Hp → Int32 → Prop) (Ψ : Hp → String → Prop) : Prop := wX7_link_b0 x0 x1 x2 x3 x4 x5 Φ Ψ S
set_option maxRecDepth 100000 in
theorem mX7_link {l : Launch} {G : Gw} (hl9 : l.stackTraces = false) {S : Hp} {x0 : Nat} {x1 : Int32} {x2 : Int32} {x3 : Int32} {x4 : Int32} {x5 : Int32} {Φ : Hp → Int32 → Prop} {Ψ : Hp → String → Prop} (h : wX7_link S x0 x1 x2 x3 x4 x5 Φ Ψ) : gT l yX7_link cX7_link 6 (some .int) rm_X7_link [.ref x0, .int x1, .int x2, .int x3, .int x4, .int x5] G S (PI Φ) Ψ := by
  unfold gT
  refine vx_ofW (cc := cX7_link) (maxL := 6) (ret := (some .int)) (by decide) rfl ?_
  intro p e s m args below meth c s₁ B hml hx9 hv
  obtain ⟨rfl, hw⟩ := hv
  obtain ⟨C0, Y, hO⟩ := mx_of B hml hw
  have hS : va_S (Ab G.b) s.heap s.heap [] := va_S.rf
  have hl := lv_entry ([.ref x0, .int x1, .int x2, .int x3, .int x4, .int x5]) (n := 6) (Nat.le_of_ble_eq_true rfl)
  rw [lg_entry_eq]
  generalize (lg_sl ([.ref x0, .int x1, .int x2, .int x3, .int x4, .int x5]) ++ List.replicate (6 - (lg_sl ([.ref x0, .int x1, .int x2, .int x3, .int x4, .int x5])).length) Slot.unset).toArray = ls at hl ⊢
  have hl : lv_has ls 6 [(0, .ref x0), (1, .int x1), (2, .int x2), (3, .int x3), (4, .int x4), (5, .int x5)] := hl
  exact bX7_link_b0 C0 Y hl9 hx9 S _ _ _ 0 0 h hO hS hl (by decide) (by decide)

def rm_X7_checkRange : Room := { frames := 6, cells := 1, slots := 6, locals := 90 }
def wX7_checkRange_b10 (x0 : Int32) (x1 : Int32) (x2 : Int32) (Φ : Hp → Prop) (Ψ : Hp → String → Prop) (S : Hp) : Prop := Ψ S "java/lang/IllegalArgumentException"
set_option maxHeartbeats 4000000 in
set_option maxRecDepth 100000 in
theorem bX7_checkRange_b10 {p : Program} {l : Launch} {e : Env} {s : State} {m : MethodId} {args : Array Value} {below : List Frame} {meth : Method} {c : Code} {G : Gw} {x0 : Int32} {x1 : Int32} {x2 : Int32} {Φ : Hp → Prop} {Ψ : Hp → String → Prop} (C0 : Mx p s m c cX7_checkRange 3 args yX7_checkRange.cls G) (Y : My meth none) (hl9 : l.stackTraces = false) (hx9 : ∀ x ∈ c.exceptionTable.toList, False)  : ∀ (S : Hp) (H : Heap) (locs : List Loc) (ls : Array Slot) (cells slots : Nat), wX7_checkRange_b10 x0 x1 x2 Φ Ψ S → Ok G S H → va_S (Ab G.b) s.heap H locs → lv_has ls 3 [(0, .int x0), (1, .int x1), (2, .int x2)] → cells + (1) ≤ 1 → slots + (6) ≤ 6 → W p l e rm_X7_checkRange s m args below meth c H locs cells slots (vx_MQ below (gQ G (PV Φ)) (gX G Ψ) args s rm_X7_checkRange.cells rm_X7_checkRange.slots (Ab G.b)) (F0 m 10 ls []) := by
  intro S H locs ls cells slots h hO hS hl hcc hss
  unfold wX7_checkRange_b10 at h
  exact t_W (text := "a number is out of range") (names := xnm) C0 hl9 Y.2 hx9 hO hS xf_IllegalArgumentException xnm_ok tb_558 tb_40 (by decide +kernel) xat_95 xgd_9500091 hl.1 h dX7_checkRange_10 dX7_checkRange_13 dX7_checkRange_14 dX7_checkRange_17 dX7_checkRange_20 (Nat.le_of_ble_eq_true rfl) (Nat.le_of_ble_eq_true rfl) (by show _ ≤ 1; omega) (by show _ ≤ 6; omega) (by show _ ≤ 1; omega) (by show _ ≤ 6; omega)
def wX7_checkRange_b0 (x0 : Int32) (x1 : Int32) (x2 : Int32) (Φ : Hp → Prop) (Ψ : Hp → String → Prop) (S : Hp) : Prop := ((x0 < x1 → wX7_checkRange_b10 x0 x1 x2 Φ Ψ S) ∧ (¬ (x0 < x1) → ((x0 ≤ x2 → Φ S) ∧ (¬ (x0 ≤ x2) → wX7_checkRange_b10 x0 x1 x2 Φ Ψ S))))
set_option maxHeartbeats 4000000 in
set_option maxRecDepth 100000 in
theorem bX7_checkRange_b0 {p : Program} {l : Launch} {e : Env} {s : State} {m : MethodId} {args : Array Value} {below : List Frame} {meth : Method} {c : Code} {G : Gw} {x0 : Int32} {x1 : Int32} {x2 : Int32} {Φ : Hp → Prop} {Ψ : Hp → String → Prop} (C0 : Mx p s m c cX7_checkRange 3 args yX7_checkRange.cls G) (Y : My meth none) (hl9 : l.stackTraces = false) (hx9 : ∀ x ∈ c.exceptionTable.toList, False)  : ∀ (S : Hp) (H : Heap) (locs : List Loc) (ls : Array Slot) (cells slots : Nat), wX7_checkRange_b0 x0 x1 x2 Φ Ψ S → Ok G S H → va_S (Ab G.b) s.heap H locs → lv_has ls 3 [(0, .int x0), (1, .int x1), (2, .int x2)] → cells + (1) ≤ 1 → slots + (6) ≤ 6 → W p l e rm_X7_checkRange s m args below meth c H locs cells slots (vx_MQ below (gQ G (PV Φ)) (gX G Ψ) args s rm_X7_checkRange.cells rm_X7_checkRange.slots (Ab G.b)) (F0 m 0 ls []) := by
  intro S H locs ls cells slots h hO hS hl hcc hss
  unfold wX7_checkRange_b0 at h
  refine lv_iload_n C0.1 C0.2.1 dX7_checkRange_0 rfl (lv_at hl 0 rfl) ?_
  refine lv_iload_n C0.1 C0.2.1 dX7_checkRange_1 rfl (lv_at hl 1 rfl) ?_
  refine lv_icmp_lt (tgt := 10) C0.1 C0.2.1 dX7_checkRange_2 (by decide) (fun c1 => ?_) (fun c1 => ?_)
  · have h := h.1 c1
    exact bX7_checkRange_b10 C0 Y hl9 hx9 _ _ _ _ _ _ h hO hS (lv_sub hl [0, 1, 2] rfl) (by omega) (by omega)
  · have h := h.2 c1
    refine lv_iload_n C0.1 C0.2.1 dX7_checkRange_5 rfl (lv_at hl 0 rfl) ?_
    refine lv_iload_n C0.1 C0.2.1 dX7_checkRange_6 rfl (lv_at hl 2 rfl) ?_
    refine lv_icmp_le (tgt := 21) C0.1 C0.2.1 dX7_checkRange_7 (by decide) (fun c2 => ?_) (fun c2 => ?_)
    · have h := h.1 c2
      refine vx_ret ?_
      exact e_V C0 Y hO hS h (by show _ ≤ 1; omega) (by show _ ≤ 6; omega) dX7_checkRange_21
    · have h := h.2 c2
      exact bX7_checkRange_b10 C0 Y hl9 hx9 _ _ _ _ _ _ h hO hS (lv_sub hl [0, 1, 2] rfl) (by omega) (by omega)
def wX7_checkRange (S : Hp) (x0 : Int32) (x1 : Int32) (x2 : Int32) (Φ : Hp → Prop) (Ψ : Hp → String → Prop) : Prop := wX7_checkRange_b0 x0 x1 x2 Φ Ψ S
set_option maxRecDepth 100000 in
theorem mX7_checkRange {l : Launch} {G : Gw} (hl9 : l.stackTraces = false) {S : Hp} {x0 : Int32} {x1 : Int32} {x2 : Int32} {Φ : Hp → Prop} {Ψ : Hp → String → Prop} (h : wX7_checkRange S x0 x1 x2 Φ Ψ) : gT l yX7_checkRange cX7_checkRange 3 none rm_X7_checkRange [.int x0, .int x1, .int x2] G S (PV Φ) Ψ := by
  unfold gT
  refine vx_ofW (cc := cX7_checkRange) (maxL := 3) (ret := none) (by decide) rfl ?_
  intro p e s m args below meth c s₁ B hml hx9 hv
  obtain ⟨rfl, hw⟩ := hv
  obtain ⟨C0, Y, hO⟩ := mx_of B hml hw
  have hS : va_S (Ab G.b) s.heap s.heap [] := va_S.rf
  have hl := lv_entry ([.int x0, .int x1, .int x2]) (n := 3) (Nat.le_of_ble_eq_true rfl)
  rw [lg_entry_eq]
  generalize (lg_sl ([.int x0, .int x1, .int x2]) ++ List.replicate (3 - (lg_sl ([.int x0, .int x1, .int x2])).length) Slot.unset).toArray = ls at hl ⊢
  have hl : lv_has ls 3 [(0, .int x0), (1, .int x1), (2, .int x2)] := hl
  exact bX7_checkRange_b0 C0 Y hl9 hx9 S _ _ _ 0 0 h hO hS hl (by decide) (by decide)

def rm_X7_planets : Room := { frames := 9, cells := 97, slots := 2225, locals := 235 }
def wX7_planets_b48 (x0 : Nat) (x1 : Int32) (x2 : Int32) (x3 : Int32) (x4 : Int32) (x5 : Int32) (Φ : Hp → Int32 → Prop) (Ψ : Hp → String → Prop) (S : Hp) : Prop := Ψ S "java/lang/UnsupportedOperationException"
set_option maxHeartbeats 4000000 in
set_option maxRecDepth 100000 in
theorem bX7_planets_b48 {p : Program} {l : Launch} {e : Env} {s : State} {m : MethodId} {args : Array Value} {below : List Frame} {meth : Method} {c : Code} {G : Gw} {x0 : Nat} {x1 : Int32} {x2 : Int32} {x3 : Int32} {x4 : Int32} {x5 : Int32} {Φ : Hp → Int32 → Prop} {Ψ : Hp → String → Prop} (C0 : Mx p s m c cX7_planets 6 args yX7_planets.cls G) (Y : My meth (some .int)) (hl9 : l.stackTraces = false) (hx9 : ∀ x ∈ c.exceptionTable.toList, False)  : ∀ (S : Hp) (H : Heap) (locs : List Loc) (ls : Array Slot) (cells slots : Nat), wX7_planets_b48 x0 x1 x2 x3 x4 x5 Φ Ψ S → Ok G S H → va_S (Ab G.b) s.heap H locs → lv_has ls 6 [(0, .ref x0), (1, .int x1), (2, .int x2), (3, .int x3), (4, .int x4), (5, .int x5)] → cells + (1) ≤ 97 → slots + (6) ≤ 2225 → W p l e rm_X7_planets s m args below meth c H locs cells slots (vx_MQ below (gQ G (PI Φ)) (gX G Ψ) args s rm_X7_planets.cells rm_X7_planets.slots (Ab G.b)) (F0 m 48 ls []) := by
  intro S H locs ls cells slots h hO hS hl hcc hss
  unfold wX7_planets_b48 at h
  exact t_S (text := "two shafts are the same") (names := xnm) C0 hl9 Y.2 hx9 hO hS xf_UnsupportedOperationException xnm_ok tb_574 tb_41 (by decide +kernel) xat_100 xgd_10000096 hl.1 h dX7_planets_48 dX7_planets_51 dX7_planets_52 dX7_planets_54 dX7_planets_57 (Nat.le_of_ble_eq_true rfl) (Nat.le_of_ble_eq_true rfl) (by show _ ≤ 97; omega) (by show _ ≤ 2225; omega) (by show _ ≤ 97; omega) (by show _ ≤ 2225; omega)
def wX7_planets_b0 (x0 : Nat) (x1 : Int32) (x2 : Int32) (x3 : Int32) (x4 : Int32) (x5 : Int32) (Φ : Hp → Int32 → Prop) (Ψ : Hp → String → Prop) (S : Hp) : Prop := isA S x0 7 ∧ wX7_checkShaft S x0 x1 (fun S1 => isA S1 x0 7 ∧ wX7_checkShaft S1 x0 x2 (fun S3 => isA S3 x0 7 ∧ wX7_checkShaft S3 x0 x3 (fun S5 => wX7_checkRange S5 x4 6 30 (fun S7 => wX7_checkRange S7 x5 6 30 (fun S8 => ((x1 = x2 → wX7_planets_b48 x0 x1 x2 x3 x4 x5 Φ Ψ S8) ∧ (¬ (x1 = x2) → ((x1 = x3 → wX7_planets_b48 x0 x1 x2 x3 x4 x5 Φ Ψ S8) ∧ (¬ (x1 = x3) → ((¬ x2 = x3 → ∀ a12 S13, a12 ∉ S8.L → S13 = S8.new a12 5 0 → isA S13 x0 7 ∧ ∃ a15, S13.FR 448 x0 = some a15 ∧ isA S13 a15 9 ∧ wJx4a65c_size_8abf5 S13 a15 (fun S16 r17 => wX5_init S16 a12 r17 112 x1 x2 x3 x4 x5 (fun S19 => isA S19 x0 7 ∧ wX7_addLink S19 x0 a12 (fun S20 r21 => Φ S20 r21) Ψ))) ∧ (x2 = x3 → wX7_planets_b48 x0 x1 x2 x3 x4 x5 Φ Ψ S8))))))) Ψ) Ψ) Ψ) Ψ) Ψ
set_option maxHeartbeats 4000000 in
set_option maxRecDepth 100000 in
theorem bX7_planets_b0 {p : Program} {l : Launch} {e : Env} {s : State} {m : MethodId} {args : Array Value} {below : List Frame} {meth : Method} {c : Code} {G : Gw} {x0 : Nat} {x1 : Int32} {x2 : Int32} {x3 : Int32} {x4 : Int32} {x5 : Int32} {Φ : Hp → Int32 → Prop} {Ψ : Hp → String → Prop} (C0 : Mx p s m c cX7_planets 6 args yX7_planets.cls G) (Y : My meth (some .int)) (hl9 : l.stackTraces = false) (hx9 : ∀ x ∈ c.exceptionTable.toList, False)  : ∀ (S : Hp) (H : Heap) (locs : List Loc) (ls : Array Slot) (cells slots : Nat), wX7_planets_b0 x0 x1 x2 x3 x4 x5 Φ Ψ S → Ok G S H → va_S (Ab G.b) s.heap H locs → lv_has ls 6 [(0, .ref x0), (1, .int x1), (2, .int x2), (3, .int x3), (4, .int x4), (5, .int x5)] → cells + (97) ≤ 97 → slots + (2225) ≤ 2225 → W p l e rm_X7_planets s m args below meth c H locs cells slots (vx_MQ below (gQ G (PI Φ)) (gX G Ψ) args s rm_X7_planets.cells rm_X7_planets.slots (Ab G.b)) (F0 m 0 ls []) := by
  intro S H locs ls cells slots h hO hS hl hcc hss
  unfold wX7_planets_b0 at h
  refine lv_aload_n C0.1 C0.2.1 dX7_planets_0 rfl (lv_at hl 0 rfl) ?_
  refine lv_iload_n C0.1 C0.2.1 dX7_planets_1 rfl (lv_at hl 1 rfl) ?_
  obtain ⟨i2, h⟩ := h
  refine x_V C0 Y.2 hx9 hO hS (mX7_checkShaft hl9 h) i2 (by decide) rfl rfl tb_547 tb_549 tb_14 tb_27 tb_550 hd_X7_checkShaft rfl ⟨⟨by decide, by decide⟩, by show _ + 1 ≤ 97; omega, by show _ + 6 ≤ 2225; omega⟩ hl.1 rfl (Nat.le_of_ble_eq_true rfl) dX7_planets_2 (by show _ + 1 ≤ 97; omega) (by show _ + 6 ≤ 2225; omega) (kV (fun S1 H locs h hO hS => ?_))
  change W _ _ _ _ _ _ _ _ _ _ _ _ (_ + 1) (_ + 6) _ _
  refine lv_aload_n C0.1 C0.2.1 dX7_planets_5 rfl (lv_at hl 0 rfl) ?_
  refine lv_iload_n C0.1 C0.2.1 dX7_planets_6 rfl (lv_at hl 2 rfl) ?_
  obtain ⟨i4, h⟩ := h
  refine x_V C0 Y.2 hx9 hO hS (mX7_checkShaft hl9 h) i4 (by decide) rfl rfl tb_547 tb_549 tb_14 tb_27 tb_550 hd_X7_checkShaft rfl ⟨⟨by decide, by decide⟩, by show _ + 1 ≤ 97; omega, by show _ + 6 ≤ 2225; omega⟩ hl.1 rfl (Nat.le_of_ble_eq_true rfl) dX7_planets_7 (by show _ + 1 ≤ 97; omega) (by show _ + 6 ≤ 2225; omega) (kV (fun S3 H locs h hO hS => ?_))
  change W _ _ _ _ _ _ _ _ _ _ _ _ (_ + 1) (_ + 6) _ _
  refine lv_aload_n C0.1 C0.2.1 dX7_planets_10 rfl (lv_at hl 0 rfl) ?_
  refine lv_iload_n C0.1 C0.2.1 dX7_planets_11 rfl (lv_at hl 3 rfl) ?_
  obtain ⟨i6, h⟩ := h
  refine x_V C0 Y.2 hx9 hO hS (mX7_checkShaft hl9 h) i6 (by decide) rfl rfl tb_547 tb_549 tb_14 tb_27 tb_550 hd_X7_checkShaft rfl ⟨⟨by decide, by decide⟩, by show _ + 1 ≤ 97; omega, by show _ + 6 ≤ 2225; omega⟩ hl.1 rfl (Nat.le_of_ble_eq_true rfl) dX7_planets_12 (by show _ + 1 ≤ 97; omega) (by show _ + 6 ≤ 2225; omega) (kV (fun S5 H locs h hO hS => ?_))
  change W _ _ _ _ _ _ _ _ _ _ _ _ (_ + 1) (_ + 6) _ _
  refine lv_iload C0.1 C0.2.1 dX7_planets_15 (lv_at hl 4 rfl) ?_
  refine lv_bipush (v := 6) C0.1 C0.2.1 dX7_planets_17 (by decide) ?_
  refine lv_bipush (v := 30) C0.1 C0.2.1 dX7_planets_19 (by decide) ?_
  refine x_S C0 Y.2 hx9 hO hS (mX7_checkRange hl9 h) tb_726 tb_727 tb_27 tb_728 hd_X7_checkRange rfl ⟨⟨by decide, by decide⟩, by show _ + 1 ≤ 97; omega, by show _ + 6 ≤ 2225; omega⟩ hl.1 rfl (Nat.le_of_ble_eq_true rfl) dX7_planets_21 (by show _ + 1 ≤ 97; omega) (by show _ + 6 ≤ 2225; omega) (kV (fun S7 H locs h hO hS => ?_))
  change W _ _ _ _ _ _ _ _ _ _ _ _ (_ + 1) (_ + 6) _ _
  refine lv_iload C0.1 C0.2.1 dX7_planets_24 (lv_at hl 5 rfl) ?_
  refine lv_bipush (v := 6) C0.1 C0.2.1 dX7_planets_26 (by decide) ?_
  refine lv_bipush (v := 30) C0.1 C0.2.1 dX7_planets_28 (by decide) ?_
  refine x_S C0 Y.2 hx9 hO hS (mX7_checkRange hl9 h) tb_726 tb_727 tb_27 tb_728 hd_X7_checkRange rfl ⟨⟨by decide, by decide⟩, by show _ + 1 ≤ 97; omega, by show _ + 6 ≤ 2225; omega⟩ hl.1 rfl (Nat.le_of_ble_eq_true rfl) dX7_planets_30 (by show _ + 1 ≤ 97; omega) (by show _ + 6 ≤ 2225; omega) (kV (fun S8 H locs h hO hS => ?_))
  change W _ _ _ _ _ _ _ _ _ _ _ _ (_ + 1) (_ + 6) _ _
  refine lv_iload_n C0.1 C0.2.1 dX7_planets_33 rfl (lv_at hl 1 rfl) ?_
  refine lv_iload_n C0.1 C0.2.1 dX7_planets_34 rfl (lv_at hl 2 rfl) ?_
  refine lv_icmp_eq (tgt := 48) C0.1 C0.2.1 dX7_planets_35 (by decide) (fun c9 => ?_) (fun c9 => ?_)
  · have h := h.1 c9
    exact bX7_planets_b48 C0 Y hl9 hx9 _ _ _ _ _ _ h hO hS (lv_sub hl [0, 1, 2, 3, 4, 5] rfl) (by omega) (by omega)
  · have h := h.2 c9
    refine lv_iload_n C0.1 C0.2.1 dX7_planets_38 rfl (lv_at hl 1 rfl) ?_
    refine lv_iload_n C0.1 C0.2.1 dX7_planets_39 rfl (lv_at hl 3 rfl) ?_
    refine lv_icmp_eq (tgt := 48) C0.1 C0.2.1 dX7_planets_40 (by decide) (fun c10 => ?_) (fun c10 => ?_)
    · have h := h.1 c10
      exact bX7_planets_b48 C0 Y hl9 hx9 _ _ _ _ _ _ h hO hS (lv_sub hl [0, 1, 2, 3, 4, 5] rfl) (by omega) (by omega)
    · have h := h.2 c10
      refine lv_iload_n C0.1 C0.2.1 dX7_planets_43 rfl (lv_at hl 2 rfl) ?_
      refine lv_iload_n C0.1 C0.2.1 dX7_planets_44 rfl (lv_at hl 3 rfl) ?_
      refine lv_icmp_ne (tgt := 58) C0.1 C0.2.1 dX7_planets_45 (by decide) (fun c11 => ?_) (fun c11 => ?_)
      · have h := h.1 c11
        refine lv_aload_n C0.1 C0.2.1 dX7_planets_58 rfl (lv_at hl 0 rfl) ?_
        refine n_5 C0 hO hS tb_294 tb_590 tb_48 (by show _ ≤ 97; omega) (by show _ ≤ 2225; omega) dX7_planets_59 (fun a12 H hna12 hO hS => ?_)
        have h := h a12 _ hna12 rfl
        refine lv_dup C0.1 C0.2.1 dX7_planets_62 rfl ?_
        refine lv_aload_n C0.1 C0.2.1 dX7_planets_63 rfl (lv_at hl 0 rfl) ?_
        obtain ⟨i14, h⟩ := h
        obtain ⟨a15, ea15, h⟩ := h
        refine g7_0 C0 hO i14 ea15 tb_135 dX7_planets_64 ?_
        obtain ⟨i18, h⟩ := h
        refine c_V C0 hO hS (mJx4a65c_size_8abf5 h) i18 (by decide) rfl rfl tb_204 tb_205 tb_206 tb_30 tb_207 hd_Jx4a65c_size_8abf5 rfl ⟨⟨by decide, by decide⟩, by show _ + 0 ≤ 97; omega, by show _ + 0 ≤ 2225; omega⟩ hl.1 rfl (Nat.le_of_ble_eq_true rfl) dX7_planets_67 (kI (fun r17 S16 H locs h hO hS => ?_))
        change W _ _ _ _ _ _ _ _ _ _ _ _ (_ + 0) (_ + 0) _ _
        refine lv_bipush (v := 112) C0.1 C0.2.1 dX7_planets_70 (by decide) ?_
        refine lv_iload_n C0.1 C0.2.1 dX7_planets_72 rfl (lv_at hl 1 rfl) ?_
        refine lv_iload_n C0.1 C0.2.1 dX7_planets_73 rfl (lv_at hl 2 rfl) ?_
        refine lv_iload_n C0.1 C0.2.1 dX7_planets_74 rfl (lv_at hl 3 rfl) ?_
        refine lv_iload C0.1 C0.2.1 dX7_planets_75 (lv_at hl 4 rfl) ?_
        refine lv_iload C0.1 C0.2.1 dX7_planets_77 (lv_at hl 5 rfl) ?_
        refine c_I C0 hO hS (mX5_init h) tb_591 tb_592 tb_48 tb_593 rfl hd_X5_init rfl ⟨⟨by decide, by decide⟩, by show _ + 0 ≤ 97; omega, by show _ + 0 ≤ 2225; omega⟩ hl.1 rfl (Nat.le_of_ble_eq_true rfl) dX7_planets_79 (kV (fun S19 H locs h hO hS => ?_))
        change W _ _ _ _ _ _ _ _ _ _ _ _ (_ + 0) (_ + 0) _ _
        obtain ⟨i22, h⟩ := h
        refine x_V C0 Y.2 hx9 hO hS (mX7_addLink hl9 h) i22 (by decide) rfl rfl tb_639 tb_641 tb_15 tb_27 tb_642 hd_X7_addLink rfl ⟨⟨by decide, by decide⟩, by show _ + 91 ≤ 97; omega, by show _ + 2184 ≤ 2225; omega⟩ hl.1 rfl (Nat.le_of_ble_eq_true rfl) dX7_planets_82 (by show _ + 91 ≤ 97; omega) (by show _ + 2184 ≤ 2225; omega) (kI (fun r21 S20 H locs h hO hS => ?_))
        change W _ _ _ _ _ _ _ _ _ _ _ _ (_ + 91) (_ + 2184) _ _
        refine vx_ret ?_
        exact e_I C0 Y hO hS h (by show _ ≤ 97; omega) (by show _ ≤ 2225; omega) dX7_planets_85
      · have h := h.2 c11
        exact bX7_planets_b48 C0 Y hl9 hx9 _ _ _ _ _ _ h hO hS (lv_sub hl [0, 1, 2, 3, 4, 5] rfl) (by omega) (by omega)
def wX7_planets (S : Hp) (x0 : Nat) (x1 : Int32) (x2 : Int32) (x3 : Int32) (x4 : Int32) (x5 : Int32) (Φ : Hp → Int32 → Prop) (Ψ : Hp → String → Prop) : Prop := wX7_planets_b0 x0 x1 x2 x3 x4 x5 Φ Ψ S
set_option maxRecDepth 100000 in
theorem mX7_planets {l : Launch} {G : Gw} (hl9 : l.stackTraces = false) {S : Hp} {x0 : Nat} {x1 : Int32} {x2 : Int32} {x3 : Int32} {x4 : Int32} {x5 : Int32} {Φ : Hp → Int32 → Prop} {Ψ : Hp → String → Prop} (h : wX7_planets S x0 x1 x2 x3 x4 x5 Φ Ψ) : gT l yX7_planets cX7_planets 6 (some .int) rm_X7_planets [.ref x0, .int x1, .int x2, .int x3, .int x4, .int x5] G S (PI Φ) Ψ := by
  unfold gT
  refine vx_ofW (cc := cX7_planets) (maxL := 6) (ret := (some .int)) (by decide) rfl ?_
  intro p e s m args below meth c s₁ B hml hx9 hv
  obtain ⟨rfl, hw⟩ := hv
  obtain ⟨C0, Y, hO⟩ := mx_of B hml hw
  have hS : va_S (Ab G.b) s.heap s.heap [] := va_S.rf
  have hl := lv_entry ([.ref x0, .int x1, .int x2, .int x3, .int x4, .int x5]) (n := 6) (Nat.le_of_ble_eq_true rfl)
  rw [lg_entry_eq]
  generalize (lg_sl ([.ref x0, .int x1, .int x2, .int x3, .int x4, .int x5]) ++ List.replicate (6 - (lg_sl ([.ref x0, .int x1, .int x2, .int x3, .int x4, .int x5])).length) Slot.unset).toArray = ls at hl ⊢
  have hl : lv_has ls 6 [(0, .ref x0), (1, .int x1), (2, .int x2), (3, .int x3), (4, .int x4), (5, .int x5)] := hl
  exact bX7_planets_b0 C0 Y hl9 hx9 S _ _ _ 0 0 h hO hS hl (by decide) (by decide)

def rm_X7_takeStep : Room := { frames := 4, cells := 0, slots := 0, locals := 108 }
def wX7_takeStep_b9 (x0 : Nat) (x1 : Nat) (x2 : Int32) (x3 : Int32) (Φ : Hp → Prop) (k9 : Hp → Int32 → Prop) (S : Hp) (v4 : Int32) : Prop := isA S x0 7 ∧ ∃ a2, S.FR 449 x0 = some a2 ∧ isA S a2 9 ∧ wJx4a65c_size_8abf5 S a2 (fun S3 r4 => ((r4 ≤ v4 → Φ S3) ∧ (¬ (r4 ≤ v4) → isA S3 x0 7 ∧ ∃ a8, S3.FR 449 x0 = some a8 ∧ isA S3 a8 9 ∧ wJx4a65c_get_915e3 S3 a8 v4 (fun S9 r10 => ∃ a12, r10 = some a12 ∧ isA S9 a12 5 ∧ isA S9 x1 6 ∧ wX6_follow S9 x1 a12 (fun S14 => k9 S14 (v4 + 1))))))
set_option maxHeartbeats 4000000 in
set_option maxRecDepth 100000 in
theorem bX7_takeStep_b9 {p : Program} {l : Launch} {e : Env} {s : State} {m : MethodId} {args : Array Value} {below : List Frame} {meth : Method} {c : Code} {G : Gw} {x0 : Nat} {x1 : Nat} {x2 : Int32} {x3 : Int32} {Φ : Hp → Prop} (C0 : Mx p s m c cX7_takeStep 5 args yX7_takeStep.cls G) (Y : My meth none) {k9 : Hp → Int32 → Prop} (hk9 : ∀ (S : Hp) (v4 : Int32) (H : Heap) (locs : List Loc) (ls : Array Slot), k9 S v4 → Ok G S H → va_S (Ab G.b) s.heap H locs → lv_has ls 5 [(0, .ref x0), (1, .ref x1), (2, .int x2), (3, .int x3), (4, .int v4)] → W p l e rm_X7_takeStep s m args below meth c H locs 0 0 (MQ below (gQ G (PV Φ)) args s rm_X7_takeStep.cells rm_X7_takeStep.slots (Ab G.b)) (F0 m 9 ls [])) : ∀ (S : Hp) (v4 : Int32) (H : Heap) (locs : List Loc) (ls : Array Slot), wX7_takeStep_b9 x0 x1 x2 x3 Φ k9 S v4 → Ok G S H → va_S (Ab G.b) s.heap H locs → lv_has ls 5 [(0, .ref x0), (1, .ref x1), (2, .int x2), (3, .int x3), (4, .int v4)] → W p l e rm_X7_takeStep s m args below meth c H locs 0 0 (MQ below (gQ G (PV Φ)) args s rm_X7_takeStep.cells rm_X7_takeStep.slots (Ab G.b)) (F0 m 9 ls []) := by
  intro S v4 H locs ls h hO hS hl
  unfold wX7_takeStep_b9 at h
  refine lv_iload C0.1 C0.2.1 dX7_takeStep_9 (lv_at hl 4 rfl) ?_
  refine lv_aload_n C0.1 C0.2.1 dX7_takeStep_11 rfl (lv_at hl 0 rfl) ?_
  obtain ⟨i1, h⟩ := h
  obtain ⟨a2, ea2, h⟩ := h
  refine g7_1 C0 hO i1 ea2 tb_136 dX7_takeStep_12 ?_
  obtain ⟨i5, h⟩ := h
  refine c_V C0 hO hS (mJx4a65c_size_8abf5 h) i5 (by decide) rfl rfl tb_204 tb_205 tb_206 tb_30 tb_207 hd_Jx4a65c_size_8abf5 rfl ⟨⟨by decide, by decide⟩, by decide, by decide⟩ hl.1 rfl (Nat.le_of_ble_eq_true rfl) dX7_takeStep_15 (kI (fun r4 S3 H locs h hO hS => ?_))
  refine lv_icmp_ge (tgt := 43) C0.1 C0.2.1 dX7_takeStep_18 (by decide) (fun c6 => ?_) (fun c6 => ?_)
  · have h := h.1 c6
    exact e_V C0 Y hO hS h (Nat.le_refl _) (Nat.le_refl _) dX7_takeStep_43
  · have h := h.2 c6
    refine lv_aload_n C0.1 C0.2.1 dX7_takeStep_21 rfl (lv_at hl 1 rfl) ?_
    refine lv_aload_n C0.1 C0.2.1 dX7_takeStep_22 rfl (lv_at hl 0 rfl) ?_
    obtain ⟨i7, h⟩ := h
    obtain ⟨a8, ea8, h⟩ := h
    refine g7_1 C0 hO i7 ea8 tb_136 dX7_takeStep_23 ?_
    refine lv_iload C0.1 C0.2.1 dX7_takeStep_26 (lv_at hl 4 rfl) ?_
    obtain ⟨i11, h⟩ := h
    refine c_V C0 hO hS (mJx4a65c_get_915e3 h) i11 (by decide) rfl rfl tb_280 tb_281 tb_282 tb_30 tb_283 hd_Jx4a65c_get_915e3 rfl ⟨⟨by decide, by decide⟩, by decide, by decide⟩ hl.1 rfl (Nat.le_of_ble_eq_true rfl) dX7_takeStep_28 (kR (fun r10 S9 H locs h hO hS => ?_))
    obtain ⟨a12, ea12, h⟩ := h
    subst ea12
    change W _ _ _ _ _ _ _ _ _ _ _ _ _ _ _ (F0 _ _ _ (.ref a12 :: _))
    obtain ⟨i13, h⟩ := h
    refine r_castO C0 hO i13 (by decide) rfl tb_294 dX7_takeStep_31 ?_
    obtain ⟨i15, h⟩ := h
    refine c_V C0 hO hS (mX6_follow h) i15 (by decide) rfl rfl tb_368 tb_369 tb_370 tb_33 tb_371 hd_X6_follow rfl ⟨⟨by decide, by decide⟩, by decide, by decide⟩ hl.1 rfl (Nat.le_of_ble_eq_true rfl) dX7_takeStep_34 (kV (fun S14 H locs h hO hS => ?_))
    refine lv_iinc (v := _ + 1) C0.1 C0.2.1 dX7_takeStep_37 hl (k := 4) rfl rfl (by decide) rfl (fun ls hl => ?_)
    refine lv_goto (tgt := 9) C0.1 C0.2.1 dX7_takeStep_40 (by decide) ?_
    exact hk9 _ _ _ _ _ h hO hS (lv_sub hl [1, 2, 3, 4, 0] rfl)
set_option maxHeartbeats 4000000 in
set_option maxRecDepth 100000 in
theorem lX7_takeStep_b9 {p : Program} {l : Launch} {e : Env} {s : State} {m : MethodId} {args : Array Value} {below : List Frame} {meth : Method} {c : Code} {G : Gw} {x0 : Nat} {x1 : Nat} {x2 : Int32} {x3 : Int32} {Φ : Hp → Prop} (C0 : Mx p s m c cX7_takeStep 5 args yX7_takeStep.cls G) (Y : My meth none)  : ∀ n9 : Nat, ∀ (S : Hp) (v4 : Int32) (H : Heap) (locs : List Loc) (ls : Array Slot), it2 (wX7_takeStep_b9 x0 x1 x2 x3 Φ) n9 S v4 → Ok G S H → va_S (Ab G.b) s.heap H locs → lv_has ls 5 [(0, .ref x0), (1, .ref x1), (2, .int x2), (3, .int x3), (4, .int v4)] → W p l e rm_X7_takeStep s m args below meth c H locs 0 0 (MQ below (gQ G (PV Φ)) args s rm_X7_takeStep.cells rm_X7_takeStep.slots (Ab G.b)) (F0 m 9 ls []) := by
  intro n9
  induction n9 with
  | zero => intro S v4 H locs ls h; exact (h : False).elim
  | succ n9 ih => intro S v4 H locs ls h hO hS hl; exact bX7_takeStep_b9 C0 Y ih S v4 H locs ls h hO hS hl
def wX7_takeStep_b0 (x0 : Nat) (x1 : Nat) (x2 : Int32) (x3 : Int32) (Φ : Hp → Prop) (S : Hp) : Prop := isA S x1 6 ∧ wX6_turnInput S x1 x2 x3 (fun S1 => ∃ n, it2 (wX7_takeStep_b9 x0 x1 x2 x3 Φ) n S1 0)
set_option maxHeartbeats 4000000 in
set_option maxRecDepth 100000 in
theorem bX7_takeStep_b0 {p : Program} {l : Launch} {e : Env} {s : State} {m : MethodId} {args : Array Value} {below : List Frame} {meth : Method} {c : Code} {G : Gw} {x0 : Nat} {x1 : Nat} {x2 : Int32} {x3 : Int32} {Φ : Hp → Prop} (C0 : Mx p s m c cX7_takeStep 5 args yX7_takeStep.cls G) (Y : My meth none)  : ∀ (S : Hp) (H : Heap) (locs : List Loc) (ls : Array Slot), wX7_takeStep_b0 x0 x1 x2 x3 Φ S → Ok G S H → va_S (Ab G.b) s.heap H locs → lv_has ls 5 [(0, .ref x0), (1, .ref x1), (2, .int x2), (3, .int x3)] → W p l e rm_X7_takeStep s m args below meth c H locs 0 0 (MQ below (gQ G (PV Φ)) args s rm_X7_takeStep.cells rm_X7_takeStep.slots (Ab G.b)) (F0 m 0 ls []) := by
  intro S H locs ls h hO hS hl
  unfold wX7_takeStep_b0 at h
  refine lv_aload_n C0.1 C0.2.1 dX7_takeStep_0 rfl (lv_at hl 1 rfl) ?_
  refine lv_iload_n C0.1 C0.2.1 dX7_takeStep_1 rfl (lv_at hl 2 rfl) ?_
  refine lv_iload_n C0.1 C0.2.1 dX7_takeStep_2 rfl (lv_at hl 3 rfl) ?_
  obtain ⟨i2, h⟩ := h
  refine c_V C0 hO hS (mX6_turnInput h) i2 (by decide) rfl rfl tb_344 tb_345 tb_346 tb_33 tb_347 hd_X6_turnInput rfl ⟨⟨by decide, by decide⟩, by decide, by decide⟩ hl.1 rfl (Nat.le_of_ble_eq_true rfl) dX7_takeStep_3 (kV (fun S1 H locs h hO hS => ?_))
  refine lv_iconst (v := 0) C0.1 C0.2.1 dX7_takeStep_6 (by decide) ?_
  refine lv_istore C0.1 C0.2.1 dX7_takeStep_7 hl (by decide) rfl (fun ls hl => ?_)
  obtain ⟨n9, h⟩ := h
  exact lX7_takeStep_b9 C0 Y n9 _ _ _ _ _ h hO hS (lv_sub hl [1, 2, 3, 4, 0] rfl)
def wX7_takeStep (S : Hp) (x0 : Nat) (x1 : Nat) (x2 : Int32) (x3 : Int32) (Φ : Hp → Prop) : Prop := wX7_takeStep_b0 x0 x1 x2 x3 Φ S
set_option maxRecDepth 100000 in
theorem mX7_takeStep {l : Launch} {G : Gw} {S : Hp} {x0 : Nat} {x1 : Nat} {x2 : Int32} {x3 : Int32} {Φ : Hp → Prop} (h : wX7_takeStep S x0 x1 x2 x3 Φ) : gM l yX7_takeStep cX7_takeStep 5 none rm_X7_takeStep [.ref x0, .ref x1, .int x2, .int x3] G S (PV Φ) := by
  unfold gM
  refine Met.ofW (cc := cX7_takeStep) (maxL := 5) (ret := none) (by decide) rfl ?_
  intro p e s m args below meth c s₁ B hml hv
  obtain ⟨rfl, hw⟩ := hv
  obtain ⟨C0, Y, hO⟩ := mx_of B hml hw
  have hS : va_S (Ab G.b) s.heap s.heap [] := va_S.rf
  have hl := lv_entry ([.ref x0, .ref x1, .int x2, .int x3]) (n := 5) (Nat.le_of_ble_eq_true rfl)
  rw [lg_entry_eq]
  generalize (lg_sl ([.ref x0, .ref x1, .int x2, .int x3]) ++ List.replicate (5 - (lg_sl ([.ref x0, .ref x1, .int x2, .int x3])).length) Slot.unset).toArray = ls at hl ⊢
  have hl : lv_has ls 5 [(0, .ref x0), (1, .ref x1), (2, .int x2), (3, .int x3)] := hl
  exact bX7_takeStep_b0 C0 Y S _ _ _ h hO hS hl

def rm_X7_wearBy : Room := { frames := 3, cells := 0, slots := 0, locals := 65 }
def wX7_wearBy_b0 (x0 : Nat) (x1 : Int32) (x2 : Int32) (Φ : Hp → Prop) (S : Hp) : Prop := isA S x0 7 ∧ ∃ a2, S.FR 458 x0 = some a2 ∧ isA S a2 6 ∧ ∃ a4, S.FR 386 a2 = some a4 ∧ isA S a4 4 ∧ wX4_isMoving S a4 x2 (fun S5 r6 => ((r6 = 0 → Φ S5) ∧ (¬ (r6 = 0) → isA S5 x0 7 ∧ ∃ a10, S5.FR 457 x0 = some a10 ∧ ∃ a11, S5.FR 458 x0 = some a11 ∧ isA S5 a11 6 ∧ ∃ a13, S5.FR 386 a11 = some a13 ∧ isA S5 a13 4 ∧ wX4_overAt S5 a13 x2 (fun S14 r15 => isA S14 x0 7 ∧ ∃ a18, S14.FR 458 x0 = some a18 ∧ isA S14 a18 6 ∧ ∃ a20, S14.FR 386 a18 = some a20 ∧ isA S14 a20 4 ∧ wX4_underAt S14 a20 x2 (fun S21 r22 => isA S21 a10 4 ∧ wX4_add S21 a10 x1 (if 0 < r15 then r15 else -r15) r22 (fun S24 => Φ S24))))))
set_option maxHeartbeats 4000000 in
set_option maxRecDepth 100000 in
theorem bX7_wearBy_b0 {p : Program} {l : Launch} {e : Env} {s : State} {m : MethodId} {args : Array Value} {below : List Frame} {meth : Method} {c : Code} {G : Gw} {x0 : Nat} {x1 : Int32} {x2 : Int32} {Φ : Hp → Prop} (C0 : Mx p s m c cX7_wearBy 3 args yX7_wearBy.cls G) (Y : My meth none)  : ∀ (S : Hp) (H : Heap) (locs : List Loc) (ls : Array Slot), wX7_wearBy_b0 x0 x1 x2 Φ S → Ok G S H → va_S (Ab G.b) s.heap H locs → lv_has ls 3 [(0, .ref x0), (1, .int x1), (2, .int x2)] → W p l e rm_X7_wearBy s m args below meth c H locs 0 0 (MQ below (gQ G (PV Φ)) args s rm_X7_wearBy.cells rm_X7_wearBy.slots (Ab G.b)) (F0 m 0 ls []) := by
  intro S H locs ls h hO hS hl
  unfold wX7_wearBy_b0 at h
  refine lv_aload_n C0.1 C0.2.1 dX7_wearBy_0 rfl (lv_at hl 0 rfl) ?_
  obtain ⟨i1, h⟩ := h
  obtain ⟨a2, ea2, h⟩ := h
  refine g7_10 C0 hO i1 ea2 tb_145 dX7_wearBy_1 ?_
  obtain ⟨i3, h⟩ := h
  obtain ⟨a4, ea4, h⟩ := h
  refine g6_2 C0 hO i3 ea4 tb_118 dX7_wearBy_4 ?_
  refine lv_iload_n C0.1 C0.2.1 dX7_wearBy_7 rfl (lv_at hl 2 rfl) ?_
  obtain ⟨i7, h⟩ := h
  refine c_V C0 hO hS (mX4_isMoving h) i7 (by decide) rfl rfl tb_747 tb_380 tb_381 tb_31 tb_382 hd_X4_isMoving rfl ⟨⟨by decide, by decide⟩, by decide, by decide⟩ hl.1 rfl (Nat.le_of_ble_eq_true rfl) dX7_wearBy_8 (kI (fun r6 S5 H locs h hO hS => ?_))
  refine lv_if_eq (tgt := 47) C0.1 C0.2.1 dX7_wearBy_11 (by decide) (fun c8 => ?_) (fun c8 => ?_)
  · have h := h.1 c8
    exact e_V C0 Y hO hS h (Nat.le_refl _) (Nat.le_refl _) dX7_wearBy_47
  · have h := h.2 c8
    refine lv_aload_n C0.1 C0.2.1 dX7_wearBy_14 rfl (lv_at hl 0 rfl) ?_
    obtain ⟨i9, h⟩ := h
    obtain ⟨a10, ea10, h⟩ := h
    refine g7_9 C0 hO i9 ea10 tb_144 dX7_wearBy_15 ?_
    refine lv_iload_n C0.1 C0.2.1 dX7_wearBy_18 rfl (lv_at hl 1 rfl) ?_
    refine lv_aload_n C0.1 C0.2.1 dX7_wearBy_19 rfl (lv_at hl 0 rfl) ?_
    obtain ⟨a11, ea11, h⟩ := h
    refine g7_10 C0 hO i9 ea11 tb_145 dX7_wearBy_20 ?_
    obtain ⟨i12, h⟩ := h
    obtain ⟨a13, ea13, h⟩ := h
    refine g6_2 C0 hO i12 ea13 tb_118 dX7_wearBy_23 ?_
    refine lv_iload_n C0.1 C0.2.1 dX7_wearBy_26 rfl (lv_at hl 2 rfl) ?_
    obtain ⟨i16, h⟩ := h
    refine c_V C0 hO hS (mX4_overAt h) i16 (by decide) rfl rfl tb_748 tb_384 tb_385 tb_31 tb_386 hd_X4_overAt rfl ⟨⟨by decide, by decide⟩, by decide, by decide⟩ hl.1 rfl (Nat.le_of_ble_eq_true rfl) dX7_wearBy_27 (kJ (fun r15 S14 H locs h hO hS => ?_))
    refine va_mabs_long C0.1 C0.2.1 (C0.2.2.1.trans hl.1.symm) C0.2.2.2.1 (C0.2.2.2.2.1 _ tb_749) (C0.2.2.2.2.1 _ tb_750) (C0.2.2.2.2.1 _ tb_42) (C0.2.2.2.2.1 _ tb_751) (Nat.le_of_ble_eq_true rfl) (Nat.le_of_ble_eq_true rfl) (by decide) (by decide) dX7_wearBy_30 ?_
    refine lv_aload_n C0.1 C0.2.1 dX7_wearBy_33 rfl (lv_at hl 0 rfl) ?_
    obtain ⟨i17, h⟩ := h
    obtain ⟨a18, ea18, h⟩ := h
    refine g7_10 C0 hO i17 ea18 tb_145 dX7_wearBy_34 ?_
    obtain ⟨i19, h⟩ := h
    obtain ⟨a20, ea20, h⟩ := h
    refine g6_2 C0 hO i19 ea20 tb_118 dX7_wearBy_37 ?_
    refine lv_iload_n C0.1 C0.2.1 dX7_wearBy_40 rfl (lv_at hl 2 rfl) ?_
    obtain ⟨i23, h⟩ := h
    refine c_V C0 hO hS (mX4_underAt h) i23 (by decide) rfl rfl tb_752 tb_411 tb_412 tb_31 tb_413 hd_X4_underAt rfl ⟨⟨by decide, by decide⟩, by decide, by decide⟩ hl.1 rfl (Nat.le_of_ble_eq_true rfl) dX7_wearBy_41 (kJ (fun r22 S21 H locs h hO hS => ?_))
    obtain ⟨i25, h⟩ := h
    refine c_V C0 hO hS (mX4_add h) i25 (by decide) rfl rfl tb_753 tb_365 tb_366 tb_31 tb_367 hd_X4_add rfl ⟨⟨by decide, by decide⟩, by decide, by decide⟩ hl.1 rfl (Nat.le_of_ble_eq_true rfl) dX7_wearBy_44 (kV (fun S24 H locs h hO hS => ?_))
    exact e_V C0 Y hO hS h (Nat.le_refl _) (Nat.le_refl _) dX7_wearBy_47
def wX7_wearBy (S : Hp) (x0 : Nat) (x1 : Int32) (x2 : Int32) (Φ : Hp → Prop) : Prop := wX7_wearBy_b0 x0 x1 x2 Φ S
set_option maxRecDepth 100000 in
theorem mX7_wearBy {l : Launch} {G : Gw} {S : Hp} {x0 : Nat} {x1 : Int32} {x2 : Int32} {Φ : Hp → Prop} (h : wX7_wearBy S x0 x1 x2 Φ) : gM l yX7_wearBy cX7_wearBy 3 none rm_X7_wearBy [.ref x0, .int x1, .int x2] G S (PV Φ) := by
  unfold gM
  refine Met.ofW (cc := cX7_wearBy) (maxL := 3) (ret := none) (by decide) rfl ?_
  intro p e s m args below meth c s₁ B hml hv
  obtain ⟨rfl, hw⟩ := hv
  obtain ⟨C0, Y, hO⟩ := mx_of B hml hw
  have hS : va_S (Ab G.b) s.heap s.heap [] := va_S.rf
  have hl := lv_entry ([.ref x0, .int x1, .int x2]) (n := 3) (Nat.le_of_ble_eq_true rfl)
  rw [lg_entry_eq]
  generalize (lg_sl ([.ref x0, .int x1, .int x2]) ++ List.replicate (3 - (lg_sl ([.ref x0, .int x1, .int x2])).length) Slot.unset).toArray = ls at hl ⊢
  have hl : lv_has ls 3 [(0, .ref x0), (1, .int x1), (2, .int x2)] := hl
  exact bX7_wearBy_b0 C0 Y S _ _ _ h hO hS hl

def rm_X7_countWear : Room := { frames := 4, cells := 0, slots := 0, locals := 87 }
def wX7_countWear_b54 (x0 : Nat) (Φ : Hp → Prop) (k2 : Hp → Int32 → Prop) (S : Hp) (v1 : Int32) : Prop := k2 S (v1 + 1)
set_option maxHeartbeats 4000000 in
set_option maxRecDepth 100000 in
theorem bX7_countWear_b54 {p : Program} {l : Launch} {e : Env} {s : State} {m : MethodId} {args : Array Value} {below : List Frame} {meth : Method} {c : Code} {G : Gw} {x0 : Nat} {Φ : Hp → Prop} (C0 : Mx p s m c cX7_countWear 3 args yX7_countWear.cls G) (Y : My meth none) {k2 : Hp → Int32 → Prop} (hk2 : ∀ (S : Hp) (v1 : Int32) (H : Heap) (locs : List Loc) (ls : Array Slot), k2 S v1 → Ok G S H → va_S (Ab G.b) s.heap H locs → lv_has ls 3 [(0, .ref x0), (1, .int v1)] → W p l e rm_X7_countWear s m args below meth c H locs 0 0 (MQ below (gQ G (PV Φ)) args s rm_X7_countWear.cells rm_X7_countWear.slots (Ab G.b)) (F0 m 2 ls [])) : ∀ (S : Hp) (v1 : Int32) (H : Heap) (locs : List Loc) (ls : Array Slot), wX7_countWear_b54 x0 Φ k2 S v1 → Ok G S H → va_S (Ab G.b) s.heap H locs → lv_has ls 3 [(0, .ref x0), (1, .int v1)] → W p l e rm_X7_countWear s m args below meth c H locs 0 0 (MQ below (gQ G (PV Φ)) args s rm_X7_countWear.cells rm_X7_countWear.slots (Ab G.b)) (F0 m 54 ls []) := by
  intro S v1 H locs ls h hO hS hl
  unfold wX7_countWear_b54 at h
  refine lv_iinc (v := _ + 1) C0.1 C0.2.1 dX7_countWear_54 hl (k := 1) rfl rfl (by decide) rfl (fun ls hl => ?_)
  refine lv_goto (tgt := 2) C0.1 C0.2.1 dX7_countWear_57 (by decide) ?_
  exact hk2 _ _ _ _ _ h hO hS (lv_sub hl [1, 0] rfl)
def wX7_countWear_b2 (x0 : Nat) (Φ : Hp → Prop) (k2 : Hp → Int32 → Prop) (S : Hp) (v1 : Int32) : Prop := isA S x0 7 ∧ ∃ a2, S.FR 448 x0 = some a2 ∧ isA S a2 9 ∧ wJx4a65c_size_8abf5 S a2 (fun S3 r4 => ((r4 ≤ v1 → Φ S3) ∧ (¬ (r4 ≤ v1) → isA S3 x0 7 ∧ ∃ a8, S3.FR 448 x0 = some a8 ∧ isA S3 a8 9 ∧ wJx4a65c_get_915e3 S3 a8 v1 (fun S9 r10 => ∃ a12, r10 = some a12 ∧ isA S9 a12 5 ∧ isA S9 x0 7 ∧ ∃ a15, S9.FR 458 x0 = some a15 ∧ isA S9 a15 6 ∧ wX6_doesAct S9 a15 a12 (fun S16 r17 => ((r17 = 0 → wX7_countWear_b54 x0 Φ k2 S16 v1) ∧ (¬ (r17 = 0) → isA S16 a12 5 ∧ isA S16 x0 7 ∧ wX7_wearBy S16 x0 v1 (S16.FI 322 a12) (fun S21 => isA S21 a12 5 ∧ isA S21 x0 7 ∧ wX7_wearBy S21 x0 v1 (S21.FI 323 a12) (fun S24 => wX7_countWear_b54 x0 Φ k2 S24 v1)))))))))
set_option maxHeartbeats 4000000 in
set_option maxRecDepth 100000 in
theorem bX7_countWear_b2 {p : Program} {l : Launch} {e : Env} {s : State} {m : MethodId} {args : Array Value} {below : List Frame} {meth : Method} {c : Code} {G : Gw} {x0 : Nat} {Φ : Hp → Prop} (C0 : Mx p s m c cX7_countWear 3 args yX7_countWear.cls G) (Y : My meth none) {k2 : Hp → Int32 → Prop} (hk2 : ∀ (S : Hp) (v1 : Int32) (H : Heap) (locs : List Loc) (ls : Array Slot), k2 S v1 → Ok G S H → va_S (Ab G.b) s.heap H locs → lv_has ls 3 [(0, .ref x0), (1, .int v1)] → W p l e rm_X7_countWear s m args below meth c H locs 0 0 (MQ below (gQ G (PV Φ)) args s rm_X7_countWear.cells rm_X7_countWear.slots (Ab G.b)) (F0 m 2 ls [])) : ∀ (S : Hp) (v1 : Int32) (H : Heap) (locs : List Loc) (ls : Array Slot), wX7_countWear_b2 x0 Φ k2 S v1 → Ok G S H → va_S (Ab G.b) s.heap H locs → lv_has ls 3 [(0, .ref x0), (1, .int v1)] → W p l e rm_X7_countWear s m args below meth c H locs 0 0 (MQ below (gQ G (PV Φ)) args s rm_X7_countWear.cells rm_X7_countWear.slots (Ab G.b)) (F0 m 2 ls []) := by
  intro S v1 H locs ls h hO hS hl
  unfold wX7_countWear_b2 at h
  refine lv_iload_n C0.1 C0.2.1 dX7_countWear_2 rfl (lv_at hl 1 rfl) ?_
  refine lv_aload_n C0.1 C0.2.1 dX7_countWear_3 rfl (lv_at hl 0 rfl) ?_
  obtain ⟨i1, h⟩ := h
  obtain ⟨a2, ea2, h⟩ := h
  refine g7_0 C0 hO i1 ea2 tb_135 dX7_countWear_4 ?_
  obtain ⟨i5, h⟩ := h
  refine c_V C0 hO hS (mJx4a65c_size_8abf5 h) i5 (by decide) rfl rfl tb_204 tb_205 tb_206 tb_30 tb_207 hd_Jx4a65c_size_8abf5 rfl ⟨⟨by decide, by decide⟩, by decide, by decide⟩ hl.1 rfl (Nat.le_of_ble_eq_true rfl) dX7_countWear_7 (kI (fun r4 S3 H locs h hO hS => ?_))
  refine lv_icmp_ge (tgt := 60) C0.1 C0.2.1 dX7_countWear_10 (by decide) (fun c6 => ?_) (fun c6 => ?_)
  · have h := h.1 c6
    exact e_V C0 Y hO hS h (Nat.le_refl _) (Nat.le_refl _) dX7_countWear_60
  · have h := h.2 c6
    refine lv_aload_n C0.1 C0.2.1 dX7_countWear_13 rfl (lv_at hl 0 rfl) ?_
    obtain ⟨i7, h⟩ := h
    obtain ⟨a8, ea8, h⟩ := h
    refine g7_0 C0 hO i7 ea8 tb_135 dX7_countWear_14 ?_
    refine lv_iload_n C0.1 C0.2.1 dX7_countWear_17 rfl (lv_at hl 1 rfl) ?_
    obtain ⟨i11, h⟩ := h
    refine c_V C0 hO hS (mJx4a65c_get_915e3 h) i11 (by decide) rfl rfl tb_280 tb_281 tb_282 tb_30 tb_283 hd_Jx4a65c_get_915e3 rfl ⟨⟨by decide, by decide⟩, by decide, by decide⟩ hl.1 rfl (Nat.le_of_ble_eq_true rfl) dX7_countWear_18 (kR (fun r10 S9 H locs h hO hS => ?_))
    obtain ⟨a12, ea12, h⟩ := h
    subst ea12
    change W _ _ _ _ _ _ _ _ _ _ _ _ _ _ _ (F0 _ _ _ (.ref a12 :: _))
    obtain ⟨i13, h⟩ := h
    refine r_castO C0 hO i13 (by decide) rfl tb_294 dX7_countWear_21 ?_
    refine lv_astore_n C0.1 C0.2.1 dX7_countWear_24 rfl hl (by decide) rfl (fun ls hl => ?_)
    refine lv_aload_n C0.1 C0.2.1 dX7_countWear_25 rfl (lv_at hl 1 rfl) ?_
    obtain ⟨i14, h⟩ := h
    obtain ⟨a15, ea15, h⟩ := h
    refine g7_10 C0 hO i14 ea15 tb_145 dX7_countWear_26 ?_
    refine lv_aload_n C0.1 C0.2.1 dX7_countWear_29 rfl (lv_at hl 0 rfl) ?_
    obtain ⟨i18, h⟩ := h
    refine c_V C0 hO hS (mX6_doesAct h) i18 (by decide) rfl rfl tb_742 tb_373 tb_374 tb_33 tb_375 hd_X6_doesAct rfl ⟨⟨by decide, by decide⟩, by decide, by decide⟩ hl.1 rfl (Nat.le_of_ble_eq_true rfl) dX7_countWear_30 (kI (fun r17 S16 H locs h hO hS => ?_))
    refine lv_if_eq (tgt := 54) C0.1 C0.2.1 dX7_countWear_33 (by decide) (fun c19 => ?_) (fun c19 => ?_)
    · have h := h.1 c19
      exact bX7_countWear_b54 C0 Y hk2 _ _ _ _ _ h hO hS (lv_sub hl [1, 2] rfl)
    · have h := h.2 c19
      refine lv_aload_n C0.1 C0.2.1 dX7_countWear_36 rfl (lv_at hl 1 rfl) ?_
      refine lv_iload_n C0.1 C0.2.1 dX7_countWear_37 rfl (lv_at hl 2 rfl) ?_
      refine lv_aload_n C0.1 C0.2.1 dX7_countWear_38 rfl (lv_at hl 0 rfl) ?_
      obtain ⟨i20, h⟩ := h
      refine g5_2 C0 hO i20 tb_602 dX7_countWear_39 ?_
      obtain ⟨i22, h⟩ := h
      refine c_V C0 hO hS (mX7_wearBy h) i22 (by decide) rfl rfl tb_743 tb_745 tb_21 tb_27 tb_746 hd_X7_wearBy rfl ⟨⟨by decide, by decide⟩, by decide, by decide⟩ hl.1 rfl (Nat.le_of_ble_eq_true rfl) dX7_countWear_42 (kV (fun S21 H locs h hO hS => ?_))
      refine lv_aload_n C0.1 C0.2.1 dX7_countWear_45 rfl (lv_at hl 1 rfl) ?_
      refine lv_iload_n C0.1 C0.2.1 dX7_countWear_46 rfl (lv_at hl 2 rfl) ?_
      refine lv_aload_n C0.1 C0.2.1 dX7_countWear_47 rfl (lv_at hl 0 rfl) ?_
      obtain ⟨i23, h⟩ := h
      refine g5_3 C0 hO i23 tb_605 dX7_countWear_48 ?_
      obtain ⟨i25, h⟩ := h
      refine c_V C0 hO hS (mX7_wearBy h) i25 (by decide) rfl rfl tb_743 tb_745 tb_21 tb_27 tb_746 hd_X7_wearBy rfl ⟨⟨by decide, by decide⟩, by decide, by decide⟩ hl.1 rfl (Nat.le_of_ble_eq_true rfl) dX7_countWear_51 (kV (fun S24 H locs h hO hS => ?_))
      exact bX7_countWear_b54 C0 Y hk2 _ _ _ _ _ h hO hS (lv_sub hl [1, 2] rfl)
set_option maxHeartbeats 4000000 in
set_option maxRecDepth 100000 in
theorem lX7_countWear_b2 {p : Program} {l : Launch} {e : Env} {s : State} {m : MethodId} {args : Array Value} {below : List Frame} {meth : Method} {c : Code} {G : Gw} {x0 : Nat} {Φ : Hp → Prop} (C0 : Mx p s m c cX7_countWear 3 args yX7_countWear.cls G) (Y : My meth none)  : ∀ n9 : Nat, ∀ (S : Hp) (v1 : Int32) (H : Heap) (locs : List Loc) (ls : Array Slot), it2 (wX7_countWear_b2 x0 Φ) n9 S v1 → Ok G S H → va_S (Ab G.b) s.heap H locs → lv_has ls 3 [(0, .ref x0), (1, .int v1)] → W p l e rm_X7_countWear s m args below meth c H locs 0 0 (MQ below (gQ G (PV Φ)) args s rm_X7_countWear.cells rm_X7_countWear.slots (Ab G.b)) (F0 m 2 ls []) := by
  intro n9
  induction n9 with
  | zero => intro S v1 H locs ls h; exact (h : False).elim
  | succ n9 ih => intro S v1 H locs ls h hO hS hl; exact bX7_countWear_b2 C0 Y ih S v1 H locs ls h hO hS hl
def wX7_countWear_b0 (x0 : Nat) (Φ : Hp → Prop) (S : Hp) : Prop := ∃ n, it2 (wX7_countWear_b2 x0 Φ) n S 0
set_option maxHeartbeats 4000000 in
set_option maxRecDepth 100000 in
theorem bX7_countWear_b0 {p : Program} {l : Launch} {e : Env} {s : State} {m : MethodId} {args : Array Value} {below : List Frame} {meth : Method} {c : Code} {G : Gw} {x0 : Nat} {Φ : Hp → Prop} (C0 : Mx p s m c cX7_countWear 3 args yX7_countWear.cls G) (Y : My meth none)  : ∀ (S : Hp) (H : Heap) (locs : List Loc) (ls : Array Slot), wX7_countWear_b0 x0 Φ S → Ok G S H → va_S (Ab G.b) s.heap H locs → lv_has ls 3 [(0, .ref x0)] → W p l e rm_X7_countWear s m args below meth c H locs 0 0 (MQ below (gQ G (PV Φ)) args s rm_X7_countWear.cells rm_X7_countWear.slots (Ab G.b)) (F0 m 0 ls []) := by
  intro S H locs ls h hO hS hl
  unfold wX7_countWear_b0 at h
  refine lv_iconst (v := 0) C0.1 C0.2.1 dX7_countWear_0 (by decide) ?_
  refine lv_istore_n C0.1 C0.2.1 dX7_countWear_1 rfl hl (by decide) rfl (fun ls hl => ?_)
  obtain ⟨n9, h⟩ := h
  exact lX7_countWear_b2 C0 Y n9 _ _ _ _ _ h hO hS (lv_sub hl [1, 0] rfl)
def wX7_countWear (S : Hp) (x0 : Nat) (Φ : Hp → Prop) : Prop := wX7_countWear_b0 x0 Φ S
set_option maxRecDepth 100000 in
theorem mX7_countWear {l : Launch} {G : Gw} {S : Hp} {x0 : Nat} {Φ : Hp → Prop} (h : wX7_countWear S x0 Φ) : gM l yX7_countWear cX7_countWear 3 none rm_X7_countWear [.ref x0] G S (PV Φ) := by
  unfold gM
  refine Met.ofW (cc := cX7_countWear) (maxL := 3) (ret := none) (by decide) rfl ?_
  intro p e s m args below meth c s₁ B hml hv
  obtain ⟨rfl, hw⟩ := hv
  obtain ⟨C0, Y, hO⟩ := mx_of B hml hw
  have hS : va_S (Ab G.b) s.heap s.heap [] := va_S.rf
  have hl := lv_entry ([.ref x0]) (n := 3) (Nat.le_of_ble_eq_true rfl)
  rw [lg_entry_eq]
  generalize (lg_sl ([.ref x0]) ++ List.replicate (3 - (lg_sl ([.ref x0])).length) Slot.unset).toArray = ls at hl ⊢
  have hl : lv_has ls 3 [(0, .ref x0)] := hl
  exact bX7_countWear_b0 C0 Y S _ _ _ h hO hS hl

def rm_X7_strikePins : Room := { frames := 3, cells := 0, slots := 0, locals := 64 }
def wX7_strikePins_b80 (x0 : Nat) (Φ : Hp → Prop) (k2 : Hp → Int32 → Prop) (S : Hp) (v1 : Int32) : Prop := k2 S (v1 + 1)
set_option maxHeartbeats 4000000 in
set_option maxRecDepth 100000 in
theorem bX7_strikePins_b80 {p : Program} {l : Launch} {e : Env} {s : State} {m : MethodId} {args : Array Value} {below : List Frame} {meth : Method} {c : Code} {G : Gw} {x0 : Nat} {Φ : Hp → Prop} (C0 : Mx p s m c cX7_strikePins 3 args yX7_strikePins.cls G) (Y : My meth none) {k2 : Hp → Int32 → Prop} (hk2 : ∀ (S : Hp) (v1 : Int32) (H : Heap) (locs : List Loc) (ls : Array Slot), k2 S v1 → Ok G S H → va_S (Ab G.b) s.heap H locs → lv_has ls 3 [(0, .ref x0), (1, .int v1)] → W p l e rm_X7_strikePins s m args below meth c H locs 0 0 (MQ below (gQ G (PV Φ)) args s rm_X7_strikePins.cells rm_X7_strikePins.slots (Ab G.b)) (F0 m 2 ls [])) : ∀ (S : Hp) (v1 : Int32) (H : Heap) (locs : List Loc) (ls : Array Slot), wX7_strikePins_b80 x0 Φ k2 S v1 → Ok G S H → va_S (Ab G.b) s.heap H locs → lv_has ls 3 [(0, .ref x0), (1, .int v1)] → W p l e rm_X7_strikePins s m args below meth c H locs 0 0 (MQ below (gQ G (PV Φ)) args s rm_X7_strikePins.cells rm_X7_strikePins.slots (Ab G.b)) (F0 m 80 ls []) := by
  intro S v1 H locs ls h hO hS hl
  unfold wX7_strikePins_b80 at h
  refine lv_iinc (v := _ + 1) C0.1 C0.2.1 dX7_strikePins_80 hl (k := 1) rfl rfl (by decide) rfl (fun ls hl => ?_)
  refine lv_goto (tgt := 2) C0.1 C0.2.1 dX7_strikePins_83 (by decide) ?_
  exact hk2 _ _ _ _ _ h hO hS (lv_sub hl [1, 0] rfl)
def wX7_strikePins_b2 (x0 : Nat) (Φ : Hp → Prop) (k2 : Hp → Int32 → Prop) (S : Hp) (v1 : Int32) : Prop := isA S x0 7 ∧ ∃ a2, S.FR 451 x0 = some a2 ∧ isA S a2 9 ∧ wJx4a65c_size_8abf5 S a2 (fun S3 r4 => ((r4 ≤ v1 → Φ S3) ∧ (¬ (r4 ≤ v1) → isA S3 x0 7 ∧ ∃ a8, S3.FR 451 x0 = some a8 ∧ isA S3 a8 9 ∧ wJx4a65c_get_915e3 S3 a8 v1 (fun S9 r10 => ∃ a12, r10 = some a12 ∧ False))))
set_option maxHeartbeats 4000000 in
set_option maxRecDepth 100000 in
theorem bX7_strikePins_b2 {p : Program} {l : Launch} {e : Env} {s : State} {m : MethodId} {args : Array Value} {below : List Frame} {meth : Method} {c : Code} {G : Gw} {x0 : Nat} {Φ : Hp → Prop} (C0 : Mx p s m c cX7_strikePins 3 args yX7_strikePins.cls G) (Y : My meth none) {k2 : Hp → Int32 → Prop} (hk2 : ∀ (S : Hp) (v1 : Int32) (H : Heap) (locs : List Loc) (ls : Array Slot), k2 S v1 → Ok G S H → va_S (Ab G.b) s.heap H locs → lv_has ls 3 [(0, .ref x0), (1, .int v1)] → W p l e rm_X7_strikePins s m args below meth c H locs 0 0 (MQ below (gQ G (PV Φ)) args s rm_X7_strikePins.cells rm_X7_strikePins.slots (Ab G.b)) (F0 m 2 ls [])) : ∀ (S : Hp) (v1 : Int32) (H : Heap) (locs : List Loc) (ls : Array Slot), wX7_strikePins_b2 x0 Φ k2 S v1 → Ok G S H → va_S (Ab G.b) s.heap H locs → lv_has ls 3 [(0, .ref x0), (1, .int v1)] → W p l e rm_X7_strikePins s m args below meth c H locs 0 0 (MQ below (gQ G (PV Φ)) args s rm_X7_strikePins.cells rm_X7_strikePins.slots (Ab G.b)) (F0 m 2 ls []) := by
  intro S v1 H locs ls h hO hS hl
  unfold wX7_strikePins_b2 at h
  refine lv_iload_n C0.1 C0.2.1 dX7_strikePins_2 rfl (lv_at hl 1 rfl) ?_
  refine lv_aload_n C0.1 C0.2.1 dX7_strikePins_3 rfl (lv_at hl 0 rfl) ?_
  obtain ⟨i1, h⟩ := h
  obtain ⟨a2, ea2, h⟩ := h
  refine g7_3 C0 hO i1 ea2 tb_138 dX7_strikePins_4 ?_
  obtain ⟨i5, h⟩ := h
  refine c_V C0 hO hS (mJx4a65c_size_8abf5 h) i5 (by decide) rfl rfl tb_204 tb_205 tb_206 tb_30 tb_207 hd_Jx4a65c_size_8abf5 rfl ⟨⟨by decide, by decide⟩, by decide, by decide⟩ hl.1 rfl (Nat.le_of_ble_eq_true rfl) dX7_strikePins_7 (kI (fun r4 S3 H locs h hO hS => ?_))
  refine lv_icmp_ge (tgt := 86) C0.1 C0.2.1 dX7_strikePins_10 (by decide) (fun c6 => ?_) (fun c6 => ?_)
  · have h := h.1 c6
    exact e_V C0 Y hO hS h (Nat.le_refl _) (Nat.le_refl _) dX7_strikePins_86
  · have h := h.2 c6
    refine lv_aload_n C0.1 C0.2.1 dX7_strikePins_13 rfl (lv_at hl 0 rfl) ?_
    obtain ⟨i7, h⟩ := h
    obtain ⟨a8, ea8, h⟩ := h
    refine g7_3 C0 hO i7 ea8 tb_138 dX7_strikePins_14 ?_
    refine lv_iload_n C0.1 C0.2.1 dX7_strikePins_17 rfl (lv_at hl 1 rfl) ?_
    obtain ⟨i11, h⟩ := h
    refine c_V C0 hO hS (mJx4a65c_get_915e3 h) i11 (by decide) rfl rfl tb_280 tb_281 tb_282 tb_30 tb_283 hd_Jx4a65c_get_915e3 rfl ⟨⟨by decide, by decide⟩, by decide, by decide⟩ hl.1 rfl (Nat.le_of_ble_eq_true rfl) dX7_strikePins_18 (kR (fun r10 S9 H locs h hO hS => ?_))
    obtain ⟨a12, ea12, h⟩ := h
    subst ea12
    change W _ _ _ _ _ _ _ _ _ _ _ _ _ _ _ (F0 _ _ _ (.ref a12 :: _))
    exact h.elim
set_option maxHeartbeats 4000000 in
set_option maxRecDepth 100000 in
theorem lX7_strikePins_b2 {p : Program} {l : Launch} {e : Env} {s : State} {m : MethodId} {args : Array Value} {below : List Frame} {meth : Method} {c : Code} {G : Gw} {x0 : Nat} {Φ : Hp → Prop} (C0 : Mx p s m c cX7_strikePins 3 args yX7_strikePins.cls G) (Y : My meth none)  : ∀ n9 : Nat, ∀ (S : Hp) (v1 : Int32) (H : Heap) (locs : List Loc) (ls : Array Slot), it2 (wX7_strikePins_b2 x0 Φ) n9 S v1 → Ok G S H → va_S (Ab G.b) s.heap H locs → lv_has ls 3 [(0, .ref x0), (1, .int v1)] → W p l e rm_X7_strikePins s m args below meth c H locs 0 0 (MQ below (gQ G (PV Φ)) args s rm_X7_strikePins.cells rm_X7_strikePins.slots (Ab G.b)) (F0 m 2 ls []) := by
  intro n9
  induction n9 with
  | zero => intro S v1 H locs ls h; exact (h : False).elim
  | succ n9 ih => intro S v1 H locs ls h hO hS hl; exact bX7_strikePins_b2 C0 Y ih S v1 H locs ls h hO hS hl
def wX7_strikePins_b0 (x0 : Nat) (Φ : Hp → Prop) (S : Hp) : Prop := ∃ n, it2 (wX7_strikePins_b2 x0 Φ) n S 0
set_option maxHeartbeats 4000000 in
set_option maxRecDepth 100000 in
theorem bX7_strikePins_b0 {p : Program} {l : Launch} {e : Env} {s : State} {m : MethodId} {args : Array Value} {below : List Frame} {meth : Method} {c : Code} {G : Gw} {x0 : Nat} {Φ : Hp → Prop} (C0 : Mx p s m c cX7_strikePins 3 args yX7_strikePins.cls G) (Y : My meth none)  : ∀ (S : Hp) (H : Heap) (locs : List Loc) (ls : Array Slot), wX7_strikePins_b0 x0 Φ S → Ok G S H → va_S (Ab G.b) s.heap H locs → lv_has ls 3 [(0, .ref x0)] → W p l e rm_X7_strikePins s m args below meth c H locs 0 0 (MQ below (gQ G (PV Φ)) args s rm_X7_strikePins.cells rm_X7_strikePins.slots (Ab G.b)) (F0 m 0 ls []) := by
  intro S H locs ls h hO hS hl
  unfold wX7_strikePins_b0 at h
  refine lv_iconst (v := 0) C0.1 C0.2.1 dX7_strikePins_0 (by decide) ?_
  refine lv_istore_n C0.1 C0.2.1 dX7_strikePins_1 rfl hl (by decide) rfl (fun ls hl => ?_)
  obtain ⟨n9, h⟩ := h
  exact lX7_strikePins_b2 C0 Y n9 _ _ _ _ _ h hO hS (lv_sub hl [1, 0] rfl)
def wX7_strikePins (S : Hp) (x0 : Nat) (Φ : Hp → Prop) : Prop := wX7_strikePins_b0 x0 Φ S
set_option maxRecDepth 100000 in
theorem mX7_strikePins {l : Launch} {G : Gw} {S : Hp} {x0 : Nat} {Φ : Hp → Prop} (h : wX7_strikePins S x0 Φ) : gM l yX7_strikePins cX7_strikePins 3 none rm_X7_strikePins [.ref x0] G S (PV Φ) := by
  unfold gM
  refine Met.ofW (cc := cX7_strikePins) (maxL := 3) (ret := none) (by decide) rfl ?_
  intro p e s m args below meth c s₁ B hml hv
  obtain ⟨rfl, hw⟩ := hv
  obtain ⟨C0, Y, hO⟩ := mx_of B hml hw
  have hS : va_S (Ab G.b) s.heap s.heap [] := va_S.rf
  have hl := lv_entry ([.ref x0]) (n := 3) (Nat.le_of_ble_eq_true rfl)
  rw [lg_entry_eq]
  generalize (lg_sl ([.ref x0]) ++ List.replicate (3 - (lg_sl ([.ref x0])).length) Slot.unset).toArray = ls at hl ⊢
  have hl : lv_has ls 3 [(0, .ref x0)] := hl
  exact bX7_strikePins_b0 C0 Y S _ _ _ h hO hS hl

def rm_X7_breakWornLinks : Room := { frames := 3, cells := 0, slots := 0, locals := 64 }
def wX7_breakWornLinks_b72 (x0 : Nat) (Φ : Hp → Prop) (k2 : Hp → Int32 → Prop) (S : Hp) (v1 : Int32) : Prop := k2 S (v1 + 1)
set_option maxHeartbeats 4000000 in
set_option maxRecDepth 100000 in
theorem bX7_breakWornLinks_b72 {p : Program} {l : Launch} {e : Env} {s : State} {m : MethodId} {args : Array Value} {below : List Frame} {meth : Method} {c : Code} {G : Gw} {x0 : Nat} {Φ : Hp → Prop} (C0 : Mx p s m c cX7_breakWornLinks 3 args yX7_breakWornLinks.cls G) (Y : My meth none) {k2 : Hp → Int32 → Prop} (hk2 : ∀ (S : Hp) (v1 : Int32) (H : Heap) (locs : List Loc) (ls : Array Slot), k2 S v1 → Ok G S H → va_S (Ab G.b) s.heap H locs → lv_has ls 3 [(0, .ref x0), (1, .int v1)] → W p l e rm_X7_breakWornLinks s m args below meth c H locs 0 0 (MQ below (gQ G (PV Φ)) args s rm_X7_breakWornLinks.cells rm_X7_breakWornLinks.slots (Ab G.b)) (F0 m 2 ls [])) : ∀ (S : Hp) (v1 : Int32) (H : Heap) (locs : List Loc) (ls : Array Slot), wX7_breakWornLinks_b72 x0 Φ k2 S v1 → Ok G S H → va_S (Ab G.b) s.heap H locs → lv_has ls 3 [(0, .ref x0), (1, .int v1)] → W p l e rm_X7_breakWornLinks s m args below meth c H locs 0 0 (MQ below (gQ G (PV Φ)) args s rm_X7_breakWornLinks.cells rm_X7_breakWornLinks.slots (Ab G.b)) (F0 m 72 ls []) := by
  intro S v1 H locs ls h hO hS hl
  unfold wX7_breakWornLinks_b72 at h
  refine lv_iinc (v := _ + 1) C0.1 C0.2.1 dX7_breakWornLinks_72 hl (k := 1) rfl rfl (by decide) rfl (fun ls hl => ?_)
  refine lv_goto (tgt := 2) C0.1 C0.2.1 dX7_breakWornLinks_75 (by decide) ?_
  exact hk2 _ _ _ _ _ h hO hS (lv_sub hl [1, 0] rfl)
def wX7_breakWornLinks_b2 (x0 : Nat) (Φ : Hp → Prop) (k2 : Hp → Int32 → Prop) (S : Hp) (v1 : Int32) : Prop := isA S x0 7 ∧ ∃ a2, S.FR 448 x0 = some a2 ∧ isA S a2 9 ∧ wJx4a65c_size_8abf5 S a2 (fun S3 r4 => ((r4 ≤ v1 → Φ S3) ∧ (¬ (r4 ≤ v1) → isA S3 x0 7 ∧ ∃ a8, S3.FR 448 x0 = some a8 ∧ isA S3 a8 9 ∧ wJx4a65c_get_915e3 S3 a8 v1 (fun S9 r10 => ∃ a12, r10 = some a12 ∧ isA S9 a12 5 ∧ (((S9.FI 329 a12) ≤ 0 → wX7_breakWornLinks_b72 x0 Φ k2 S9 v1) ∧ (¬ ((S9.FI 329 a12) ≤ 0) → isA S9 x0 7 ∧ ∃ a16, S9.FR 457 x0 = some a16 ∧ isA S9 a16 4 ∧ wX4_overAt S9 a16 v1 (fun S17 r18 => isA S17 a12 5 ∧ isA S17 x0 7 ∧ ∃ a22, S17.FR 457 x0 = some a22 ∧ isA S17 a22 4 ∧ wX4_underAt S17 a22 v1 (fun S23 r24 => (((lg_cmp r18 (((S17.FI 329 a12).toInt64) * r24)) ≤ 0 → wX7_breakWornLinks_b72 x0 Φ k2 S23 v1) ∧ (¬ ((lg_cmp r18 (((S17.FI 329 a12).toInt64) * r24)) ≤ 0) → isA S23 a12 5 ∧ ∀ S28, S28 = S23.setFI 328 a12 1 → isA S28 x0 7 ∧ ∃ a30, S28.FR 458 x0 = some a30 ∧ isA S28 a30 6 ∧ wX6_setActs S28 a30 a12 0 (fun S31 => wX7_breakWornLinks_b72 x0 Φ k2 S31 v1)))))))))))
set_option maxHeartbeats 4000000 in
set_option maxRecDepth 100000 in
theorem bX7_breakWornLinks_b2 {p : Program} {l : Launch} {e : Env} {s : State} {m : MethodId} {args : Array Value} {below : List Frame} {meth : Method} {c : Code} {G : Gw} {x0 : Nat} {Φ : Hp → Prop} (C0 : Mx p s m c cX7_breakWornLinks 3 args yX7_breakWornLinks.cls G) (Y : My meth none) {k2 : Hp → Int32 → Prop} (hk2 : ∀ (S : Hp) (v1 : Int32) (H : Heap) (locs : List Loc) (ls : Array Slot), k2 S v1 → Ok G S H → va_S (Ab G.b) s.heap H locs → lv_has ls 3 [(0, .ref x0), (1, .int v1)] → W p l e rm_X7_breakWornLinks s m args below meth c H locs 0 0 (MQ below (gQ G (PV Φ)) args s rm_X7_breakWornLinks.cells rm_X7_breakWornLinks.slots (Ab G.b)) (F0 m 2 ls [])) : ∀ (S : Hp) (v1 : Int32) (H : Heap) (locs : List Loc) (ls : Array Slot), wX7_breakWornLinks_b2 x0 Φ k2 S v1 → Ok G S H → va_S (Ab G.b) s.heap H locs → lv_has ls 3 [(0, .ref x0), (1, .int v1)] → W p l e rm_X7_breakWornLinks s m args below meth c H locs 0 0 (MQ below (gQ G (PV Φ)) args s rm_X7_breakWornLinks.cells rm_X7_breakWornLinks.slots (Ab G.b)) (F0 m 2 ls []) := by
  intro S v1 H locs ls h hO hS hl
  unfold wX7_breakWornLinks_b2 at h
  refine lv_iload_n C0.1 C0.2.1 dX7_breakWornLinks_2 rfl (lv_at hl 1 rfl) ?_
  refine lv_aload_n C0.1 C0.2.1 dX7_breakWornLinks_3 rfl (lv_at hl 0 rfl) ?_
  obtain ⟨i1, h⟩ := h
  obtain ⟨a2, ea2, h⟩ := h
  refine g7_0 C0 hO i1 ea2 tb_135 dX7_breakWornLinks_4 ?_
  obtain ⟨i5, h⟩ := h
  refine c_V C0 hO hS (mJx4a65c_size_8abf5 h) i5 (by decide) rfl rfl tb_204 tb_205 tb_206 tb_30 tb_207 hd_Jx4a65c_size_8abf5 rfl ⟨⟨by decide, by decide⟩, by decide, by decide⟩ hl.1 rfl (Nat.le_of_ble_eq_true rfl) dX7_breakWornLinks_7 (kI (fun r4 S3 H locs h hO hS => ?_))
  refine lv_icmp_ge (tgt := 78) C0.1 C0.2.1 dX7_breakWornLinks_10 (by decide) (fun c6 => ?_) (fun c6 => ?_)
  · have h := h.1 c6
    exact e_V C0 Y hO hS h (Nat.le_refl _) (Nat.le_refl _) dX7_breakWornLinks_78
  · have h := h.2 c6
    refine lv_aload_n C0.1 C0.2.1 dX7_breakWornLinks_13 rfl (lv_at hl 0 rfl) ?_
    obtain ⟨i7, h⟩ := h
    obtain ⟨a8, ea8, h⟩ := h
    refine g7_0 C0 hO i7 ea8 tb_135 dX7_breakWornLinks_14 ?_
    refine lv_iload_n C0.1 C0.2.1 dX7_breakWornLinks_17 rfl (lv_at hl 1 rfl) ?_
    obtain ⟨i11, h⟩ := h
    refine c_V C0 hO hS (mJx4a65c_get_915e3 h) i11 (by decide) rfl rfl tb_280 tb_281 tb_282 tb_30 tb_283 hd_Jx4a65c_get_915e3 rfl ⟨⟨by decide, by decide⟩, by decide, by decide⟩ hl.1 rfl (Nat.le_of_ble_eq_true rfl) dX7_breakWornLinks_18 (kR (fun r10 S9 H locs h hO hS => ?_))
    obtain ⟨a12, ea12, h⟩ := h
    subst ea12
    change W _ _ _ _ _ _ _ _ _ _ _ _ _ _ _ (F0 _ _ _ (.ref a12 :: _))
    obtain ⟨i13, h⟩ := h
    refine r_castO C0 hO i13 (by decide) rfl tb_294 dX7_breakWornLinks_21 ?_
    refine lv_astore_n C0.1 C0.2.1 dX7_breakWornLinks_24 rfl hl (by decide) rfl (fun ls hl => ?_)
    refine lv_aload_n C0.1 C0.2.1 dX7_breakWornLinks_25 rfl (lv_at hl 0 rfl) ?_
    refine g5_9 C0 hO i13 tb_615 dX7_breakWornLinks_26 ?_
    refine lv_if_le (tgt := 72) C0.1 C0.2.1 dX7_breakWornLinks_29 (by decide) (fun c14 => ?_) (fun c14 => ?_)
    · have h := h.1 c14
      exact bX7_breakWornLinks_b72 C0 Y hk2 _ _ _ _ _ h hO hS (lv_sub hl [1, 2] rfl)
    · have h := h.2 c14
      refine lv_aload_n C0.1 C0.2.1 dX7_breakWornLinks_32 rfl (lv_at hl 1 rfl) ?_
      obtain ⟨i15, h⟩ := h
      obtain ⟨a16, ea16, h⟩ := h
      refine g7_9 C0 hO i15 ea16 tb_144 dX7_breakWornLinks_33 ?_
      refine lv_iload_n C0.1 C0.2.1 dX7_breakWornLinks_36 rfl (lv_at hl 2 rfl) ?_
      obtain ⟨i19, h⟩ := h
      refine c_V C0 hO hS (mX4_overAt h) i19 (by decide) rfl rfl tb_748 tb_384 tb_385 tb_31 tb_386 hd_X4_overAt rfl ⟨⟨by decide, by decide⟩, by decide, by decide⟩ hl.1 rfl (Nat.le_of_ble_eq_true rfl) dX7_breakWornLinks_37 (kJ (fun r18 S17 H locs h hO hS => ?_))
      refine lv_aload_n C0.1 C0.2.1 dX7_breakWornLinks_40 rfl (lv_at hl 0 rfl) ?_
      obtain ⟨i20, h⟩ := h
      refine g5_9 C0 hO i20 tb_615 dX7_breakWornLinks_41 ?_
      refine lv_i2l C0.1 C0.2.1 dX7_breakWornLinks_44 rfl ?_
      refine lv_aload_n C0.1 C0.2.1 dX7_breakWornLinks_45 rfl (lv_at hl 1 rfl) ?_
      obtain ⟨i21, h⟩ := h
      obtain ⟨a22, ea22, h⟩ := h
      refine g7_9 C0 hO i21 ea22 tb_144 dX7_breakWornLinks_46 ?_
      refine lv_iload_n C0.1 C0.2.1 dX7_breakWornLinks_49 rfl (lv_at hl 2 rfl) ?_
      obtain ⟨i25, h⟩ := h
      refine c_V C0 hO hS (mX4_underAt h) i25 (by decide) rfl rfl tb_752 tb_411 tb_412 tb_31 tb_413 hd_X4_underAt rfl ⟨⟨by decide, by decide⟩, by decide, by decide⟩ hl.1 rfl (Nat.le_of_ble_eq_true rfl) dX7_breakWornLinks_50 (kJ (fun r24 S23 H locs h hO hS => ?_))
      refine lv_lmul C0.1 C0.2.1 dX7_breakWornLinks_53 ?_
      refine W.lcmp C0.1 C0.2.1 dX7_breakWornLinks_54 ?_
      refine lv_if_le (tgt := 72) C0.1 C0.2.1 dX7_breakWornLinks_55 (by decide) (fun c26 => ?_) (fun c26 => ?_)
      · have h := h.1 c26
        exact bX7_breakWornLinks_b72 C0 Y hk2 _ _ _ _ _ h hO hS (lv_sub hl [1, 2] rfl)
      · have h := h.2 c26
        refine lv_aload_n C0.1 C0.2.1 dX7_breakWornLinks_58 rfl (lv_at hl 0 rfl) ?_
        refine lv_iconst (v := 1) C0.1 C0.2.1 dX7_breakWornLinks_59 (by decide) ?_
        obtain ⟨i27, h⟩ := h
        refine p5_8 C0 hO hS i27 ⟨rfl, rfl⟩ tb_614 dX7_breakWornLinks_60 (fun H locs hO hS => ?_)
        have h := h _ rfl
        refine lv_aload_n C0.1 C0.2.1 dX7_breakWornLinks_63 rfl (lv_at hl 1 rfl) ?_
        obtain ⟨i29, h⟩ := h
        obtain ⟨a30, ea30, h⟩ := h
        refine g7_10 C0 hO i29 ea30 tb_145 dX7_breakWornLinks_64 ?_
        refine lv_aload_n C0.1 C0.2.1 dX7_breakWornLinks_67 rfl (lv_at hl 0 rfl) ?_
        refine lv_iconst (v := 0) C0.1 C0.2.1 dX7_breakWornLinks_68 (by decide) ?_
        obtain ⟨i32, h⟩ := h
        refine c_V C0 hO hS (mX6_setActs h) i32 (by decide) rfl rfl tb_782 tb_783 tb_784 tb_33 tb_785 hd_X6_setActs rfl ⟨⟨by decide, by decide⟩, by decide, by decide⟩ hl.1 rfl (Nat.le_of_ble_eq_true rfl) dX7_breakWornLinks_69 (kV (fun S31 H locs h hO hS => ?_))
        exact bX7_breakWornLinks_b72 C0 Y hk2 _ _ _ _ _ h hO hS (lv_sub hl [1, 2] rfl)
set_option maxHeartbeats 4000000 in
set_option maxRecDepth 100000 in
theorem lX7_breakWornLinks_b2 {p : Program} {l : Launch} {e : Env} {s : State} {m : MethodId} {args : Array Value} {below : List Frame} {meth : Method} {c : Code} {G : Gw} {x0 : Nat} {Φ : Hp → Prop} (C0 : Mx p s m c cX7_breakWornLinks 3 args yX7_breakWornLinks.cls G) (Y : My meth none)  : ∀ n9 : Nat, ∀ (S : Hp) (v1 : Int32) (H : Heap) (locs : List Loc) (ls : Array Slot), it2 (wX7_breakWornLinks_b2 x0 Φ) n9 S v1 → Ok G S H → va_S (Ab G.b) s.heap H locs → lv_has ls 3 [(0, .ref x0), (1, .int v1)] → W p l e rm_X7_breakWornLinks s m args below meth c H locs 0 0 (MQ below (gQ G (PV Φ)) args s rm_X7_breakWornLinks.cells rm_X7_breakWornLinks.slots (Ab G.b)) (F0 m 2 ls []) := by
  intro n9
  induction n9 with
  | zero => intro S v1 H locs ls h; exact (h : False).elim
  | succ n9 ih => intro S v1 H locs ls h hO hS hl; exact bX7_breakWornLinks_b2 C0 Y ih S v1 H locs ls h hO hS hl
def wX7_breakWornLinks_b0 (x0 : Nat) (Φ : Hp → Prop) (S : Hp) : Prop := ∃ n, it2 (wX7_breakWornLinks_b2 x0 Φ) n S 0
set_option maxHeartbeats 4000000 in
set_option maxRecDepth 100000 in
theorem bX7_breakWornLinks_b0 {p : Program} {l : Launch} {e : Env} {s : State} {m : MethodId} {args : Array Value} {below : List Frame} {meth : Method} {c : Code} {G : Gw} {x0 : Nat} {Φ : Hp → Prop} (C0 : Mx p s m c cX7_breakWornLinks 3 args yX7_breakWornLinks.cls G) (Y : My meth none)  : ∀ (S : Hp) (H : Heap) (locs : List Loc) (ls : Array Slot), wX7_breakWornLinks_b0 x0 Φ S → Ok G S H → va_S (Ab G.b) s.heap H locs → lv_has ls 3 [(0, .ref x0)] → W p l e rm_X7_breakWornLinks s m args below meth c H locs 0 0 (MQ below (gQ G (PV Φ)) args s rm_X7_breakWornLinks.cells rm_X7_breakWornLinks.slots (Ab G.b)) (F0 m 0 ls []) := by
  intro S H locs ls h hO hS hl
  unfold wX7_breakWornLinks_b0 at h
  refine lv_iconst (v := 0) C0.1 C0.2.1 dX7_breakWornLinks_0 (by decide) ?_
  refine lv_istore_n C0.1 C0.2.1 dX7_breakWornLinks_1 rfl hl (by decide) rfl (fun ls hl => ?_)
  obtain ⟨n9, h⟩ := h
  exact lX7_breakWornLinks_b2 C0 Y n9 _ _ _ _ _ h hO hS (lv_sub hl [1, 0] rfl)
def wX7_breakWornLinks (S : Hp) (x0 : Nat) (Φ : Hp → Prop) : Prop := wX7_breakWornLinks_b0 x0 Φ S
set_option maxRecDepth 100000 in
theorem mX7_breakWornLinks {l : Launch} {G : Gw} {S : Hp} {x0 : Nat} {Φ : Hp → Prop} (h : wX7_breakWornLinks S x0 Φ) : gM l yX7_breakWornLinks cX7_breakWornLinks 3 none rm_X7_breakWornLinks [.ref x0] G S (PV Φ) := by
  unfold gM
  refine Met.ofW (cc := cX7_breakWornLinks) (maxL := 3) (ret := none) (by decide) rfl ?_
  intro p e s m args below meth c s₁ B hml hv
  obtain ⟨rfl, hw⟩ := hv
  obtain ⟨C0, Y, hO⟩ := mx_of B hml hw
  have hS : va_S (Ab G.b) s.heap s.heap [] := va_S.rf
  have hl := lv_entry ([.ref x0]) (n := 3) (Nat.le_of_ble_eq_true rfl)
  rw [lg_entry_eq]
  generalize (lg_sl ([.ref x0]) ++ List.replicate (3 - (lg_sl ([.ref x0])).length) Slot.unset).toArray = ls at hl ⊢
  have hl : lv_has ls 3 [(0, .ref x0)] := hl
  exact bX7_breakWornLinks_b0 C0 Y S _ _ _ h hO hS hl
