theorem hd_L_cell : nmOk yL_cell 2 := by unfold nmOk; decide +kernel
def rm_L_cell : Room := { frames := 0, cells := 0, slots := 0, locals := 0 }
def wL_cell_b15 (x0 : (Nat → Int32)) (x1 : Int32) (L9 : Nat) (Φ : Hp → Int32 → Prop) (S : Hp) (z0 : Int32) (z1 : Int32) : Prop := Φ S (((((z0 * (z1 + (1009 * x1))) + 12345) ^^^ ((((z0 * (z1 + (1009 * x1))) + 12345).toUInt32 >>> ((13 : Int32).toUInt32 &&& Int32.toUInt32 31)).toInt32)) * 1103515245) ^^^ ((((((z0 * (z1 + (1009 * x1))) + 12345) ^^^ ((((z0 * (z1 + (1009 * x1))) + 12345).toUInt32 >>> ((13 : Int32).toUInt32 &&& Int32.toUInt32 31)).toInt32)) * 1103515245).toUInt32 >>> ((16 : Int32).toUInt32 &&& Int32.toUInt32 31)).toInt32))
set_option maxHeartbeats 4000000 in
set_option maxRecDepth 100000 in
theorem bL_cell_b15 {p : Program} {l : Launch} {e : Env} {s : State} {m : MethodId} {args : Array Value} {below : List Frame} {meth : Method} {c : Code} {G : Gw} {x1 : Int32}  {Φ : Hp → Int32 → Prop} (C0 : Mx p s m c cL_cell 3 args yL_cell.cls G) (Y : My meth (some .int))  : ∀ (S : Hp) (z0 : Int32) (z1 : Int32) (H : Heap) (locs : List Loc) (ls : Array Slot), wL_cell_b15 G.xs x1 G.xl Φ S z0 z1 → Ok G S H → va_S (Ab G.b) s.heap H locs → lv_has ls 3 [(0, .ref G.xb), (1, .int x1)] → W p l e rm_L_cell s m args below meth c H locs 0 0 (MQ below (gQ G (PI Φ)) args s rm_L_cell.cells rm_L_cell.slots (Ab G.b)) (F0 m 15 ls [.int z1, .int z0]) := by
  intro S z0 z1 H locs ls h hO hS hl
  unfold wL_cell_b15 at h
  refine lv_sipush (v := 1009) C0.1 C0.2.1 dL_cell_15 (by decide) ?_
  refine lv_iload_n C0.1 C0.2.1 dL_cell_18 rfl (lv_at hl 1 rfl) ?_
  refine lv_imul C0.1 C0.2.1 dL_cell_19 ?_
  refine lv_iadd C0.1 C0.2.1 dL_cell_20 ?_
  refine lv_imul C0.1 C0.2.1 dL_cell_21 ?_
  refine lv_sipush (v := 12345) C0.1 C0.2.1 dL_cell_22 (by decide) ?_
  refine lv_iadd C0.1 C0.2.1 dL_cell_25 ?_
  refine lv_istore_n C0.1 C0.2.1 dL_cell_26 rfl hl (by decide) rfl (fun ls hl => ?_)
  refine lv_iload_n C0.1 C0.2.1 dL_cell_27 rfl (lv_at hl 0 rfl) ?_
  refine lv_iload_n C0.1 C0.2.1 dL_cell_28 rfl (lv_at hl 0 rfl) ?_
  refine lv_bipush (v := 13) C0.1 C0.2.1 dL_cell_29 (by decide) ?_
  refine lv_iushr C0.1 C0.2.1 dL_cell_31 rfl ?_
  refine lv_ixor C0.1 C0.2.1 dL_cell_32 ?_
  refine lv_ldc (v := 1103515245) C0.1 C0.2.1 C0.2.2.2.1 (C0.2.2.2.2.1 _ tb_850) dL_cell_33 ?_
  refine lv_imul C0.1 C0.2.1 dL_cell_35 ?_
  refine lv_istore_n C0.1 C0.2.1 dL_cell_36 rfl hl (by decide) rfl (fun ls hl => ?_)
  refine lv_iload_n C0.1 C0.2.1 dL_cell_37 rfl (lv_at hl 0 rfl) ?_
  refine lv_iload_n C0.1 C0.2.1 dL_cell_38 rfl (lv_at hl 0 rfl) ?_
  refine lv_bipush (v := 16) C0.1 C0.2.1 dL_cell_39 (by decide) ?_
  refine lv_iushr C0.1 C0.2.1 dL_cell_41 rfl ?_
  refine lv_ixor C0.1 C0.2.1 dL_cell_42 ?_
  exact e_I C0 Y hO hS h (Nat.le_refl _) (Nat.le_refl _) dL_cell_43
def wL_cell_b0 (x0 : (Nat → Int32)) (x1 : Int32) (L9 : Nat) (Φ : Hp → Int32 → Prop) (S : Hp) : Prop := (((Int32.ofNat L9) ≤ x1 → wL_cell_b15 x0 x1 L9 Φ S 69069 0) ∧ (¬ ((Int32.ofNat L9) ≤ x1) → vp_in x1 L9 ∧ wL_cell_b15 x0 x1 L9 Φ S 69069 (x0 x1.toNatClampNeg)))
set_option maxHeartbeats 4000000 in
set_option maxRecDepth 100000 in
theorem bL_cell_b0 {p : Program} {l : Launch} {e : Env} {s : State} {m : MethodId} {args : Array Value} {below : List Frame} {meth : Method} {c : Code} {G : Gw} {x1 : Int32}  {Φ : Hp → Int32 → Prop} (C0 : Mx p s m c cL_cell 3 args yL_cell.cls G) (Y : My meth (some .int))  : ∀ (S : Hp) (H : Heap) (locs : List Loc) (ls : Array Slot), wL_cell_b0 G.xs x1 G.xl Φ S → Ok G S H → va_S (Ab G.b) s.heap H locs → lv_has ls 3 [(0, .ref G.xb), (1, .int x1)] → W p l e rm_L_cell s m args below meth c H locs 0 0 (MQ below (gQ G (PI Φ)) args s rm_L_cell.cells rm_L_cell.slots (Ab G.b)) (F0 m 0 ls []) := by
  intro S H locs ls h hO hS hl
  unfold wL_cell_b0 at h
  refine lv_ldc (v := 69069) C0.1 C0.2.1 C0.2.2.2.1 (C0.2.2.2.2.1 _ tb_849) dL_cell_0 ?_
  refine lv_iload_n C0.1 C0.2.1 dL_cell_2 rfl (lv_at hl 1 rfl) ?_
  refine lv_aload_n C0.1 C0.2.1 dL_cell_3 rfl (lv_at hl 0 rfl) ?_
  refine r_slen C0 hS dL_cell_4 ?_
  refine lv_icmp_ge (tgt := 14) C0.1 C0.2.1 dL_cell_5 (by decide) (fun c1 => ?_) (fun c1 => ?_)
  · have h := h.1 c1
    refine lv_iconst (v := 0) C0.1 C0.2.1 dL_cell_14 (by decide) ?_
    exact bL_cell_b15 C0 Y _ _ _ _ _ _ h hO hS (lv_sub hl [0, 1] rfl)
  · have h := h.2 c1
    refine lv_aload_n C0.1 C0.2.1 dL_cell_8 rfl (lv_at hl 0 rfl) ?_
    refine lv_iload_n C0.1 C0.2.1 dL_cell_9 rfl (lv_at hl 1 rfl) ?_
    obtain ⟨e2, h⟩ := h
    refine r_sld C0 hS e2 dL_cell_10 ?_
    refine lv_goto (tgt := 15) C0.1 C0.2.1 dL_cell_11 (by decide) ?_
    exact bL_cell_b15 C0 Y _ _ _ _ _ _ h hO hS (lv_sub hl [0, 1] rfl)
def wL_cell (S : Hp) (x0 : (Nat → Int32)) (L9 : Nat) (x1 : Int32) (Φ : Hp → Int32 → Prop) : Prop := wL_cell_b0 x0 x1 L9 Φ S
set_option maxRecDepth 100000 in
theorem mL_cell {l : Launch} {G : Gw} {S : Hp} {x1 : Int32} {Φ : Hp → Int32 → Prop} (h : wL_cell S G.xs G.xl x1 Φ) : gM l yL_cell cL_cell 3 (some .int) rm_L_cell [.ref G.xb, .int x1] G S (PI Φ) := by
  unfold gM
  refine Met.ofW (cc := cL_cell) (maxL := 3) (ret := (some .int)) (by decide) rfl ?_
  intro p e s m args below meth c s₁ B hml hv
  obtain ⟨rfl, hw⟩ := hv
  obtain ⟨C0, Y, hO⟩ := mx_of B hml hw
  have hS : va_S (Ab G.b) s.heap s.heap [] := va_S.rf
  have hl := lv_entry ([.ref G.xb, .int x1]) (n := 3) (Nat.le_of_ble_eq_true rfl)
  rw [lg_entry_eq]
  generalize (lg_sl ([.ref G.xb, .int x1]) ++ List.replicate (3 - (lg_sl ([.ref G.xb, .int x1])).length) Slot.unset).toArray = ls at hl ⊢
  have hl : lv_has ls 3 [(0, .ref G.xb), (1, .int x1)] := hl
  exact bL_cell_b0 C0 Y S _ _ _ h hO hS hl

theorem hd_L_shaft : nmOk yL_shaft 1 := by unfold nmOk; decide +kernel
def rm_L_shaft : Room := { frames := 7, cells := 1, slots := 6, locals := 110 }
def wL_shaft_b0 (x0 : Nat) (Φ : Hp → Int32 → Prop) (S : Hp) : Prop := isA S x0 7 ∧ wX7_shaft S x0 (fun S1 r2 => Φ S1 r2) (fun S9 E9 => (E9 = "java/lang/IllegalStateException" ∧ Φ S9 (-900001)))
set_option maxHeartbeats 4000000 in
set_option maxRecDepth 100000 in
theorem bL_shaft_b0 {p : Program} {l : Launch} {e : Env} {s : State} {m : MethodId} {args : Array Value} {below : List Frame} {meth : Method} {c : Code} {G : Gw} {x0 : Nat} {Φ : Hp → Int32 → Prop} (C0 : Mx p s m c cL_shaft 2 args yL_shaft.cls G) (Y : My meth (some .int)) (hl9 : l.stackTraces = false) (ht9 : c.exceptionTable.toList = tableOf [(0, 4, 5, 15)])  : ∀ (S : Hp) (H : Heap) (locs : List Loc) (ls : Array Slot) (cells slots : Nat), wL_shaft_b0 x0 Φ S → Ok G S H → va_S (Ab G.b) s.heap H locs → lv_has ls 2 [(0, .ref x0)] → cells + (1) ≤ 1 → slots + (6) ≤ 6 → W p l e rm_L_shaft s m args below meth c H locs cells slots (MQ below (gQ G (PI Φ)) args s rm_L_shaft.cells rm_L_shaft.slots (Ab G.b)) (F0 m 0 ls []) := by
  intro S H locs ls cells slots h hO hS hl hcc hss
  unfold wL_shaft_b0 at h
  refine lv_aload_n C0.1 C0.2.1 dL_shaft_0 rfl (lv_at hl 0 rfl) ?_
  obtain ⟨i3, h⟩ := h
  refine y_V C0 hO hS (mX7_shaft hl9 h) i3 (by decide) rfl rfl tb_496 tb_497 tb_498 tb_27 tb_499 hd_X7_shaft rfl ⟨⟨by decide, by decide⟩, by show _ + 1 ≤ 1; omega, by show _ + 6 ≤ 6; omega⟩ hl.1 rfl (Nat.le_of_ble_eq_true rfl) dL_shaft_1 (fun E9 ce9 q9 S9 H locs h hO hS hcell hv9 hcl => ?_) (kI (fun r2 S1 H locs h hO hS => ?_))
  · rcases h with ⟨rfl, h⟩
    · refine k_catch C0 ht9 (tableOf []) ⟨0, 4, 5, 15⟩ (tableOf []) rfl (fun z hz => absurd hz (List.not_mem_nil)) rfl (by decide) tb_495 (by decide +kernel) hcell hv9 hcl ?_
      change W _ _ _ _ _ _ _ _ _ _ _ _ (_ + 1) (_ + 6) _ _
      refine lv_astore_n C0.1 C0.2.1 dL_shaft_5 rfl hl (by decide) rfl (fun ls hl => ?_)
      refine lv_ldc (v := (-900001)) C0.1 C0.2.1 C0.2.2.2.1 (C0.2.2.2.2.1 _ tb_516) dL_shaft_6 ?_
      exact e_I C0 Y hO hS h (by show _ ≤ 1; omega) (by show _ ≤ 6; omega) dL_shaft_8
  · change W _ _ _ _ _ _ _ _ _ _ _ _ (_ + 1) (_ + 6) _ _
    exact e_I C0 Y hO hS h (by show _ ≤ 1; omega) (by show _ ≤ 6; omega) dL_shaft_4
def wL_shaft (S : Hp) (x0 : Nat) (Φ : Hp → Int32 → Prop) : Prop := wL_shaft_b0 x0 Φ S
set_option maxRecDepth 100000 in
theorem mL_shaft {l : Launch} {G : Gw} (hl9 : l.stackTraces = false) {S : Hp} {x0 : Nat} {Φ : Hp → Int32 → Prop} (h : wL_shaft S x0 Φ) : gW l yL_shaft cL_shaft 2 (some .int) [(0, 4, 5, 15)] rm_L_shaft [.ref x0] G S (PI Φ) := by
  unfold gW
  refine va_MetW (hh := [(0, 4, 5, 15)]) (cc := cL_shaft) (maxL := 2) (ret := (some .int)) (by decide) rfl ?_
  intro p e s m args below meth c s₁ B hml hv
  obtain ⟨rfl, hw⟩ := hv
  obtain ⟨C0, Y, hO, ht9⟩ := mx_ofW B hml hw
  have hS : va_S (Ab G.b) s.heap s.heap [] := va_S.rf
  have hl := lv_entry ([.ref x0]) (n := 2) (Nat.le_of_ble_eq_true rfl)
  rw [lg_entry_eq]
  generalize (lg_sl ([.ref x0]) ++ List.replicate (2 - (lg_sl ([.ref x0])).length) Slot.unset).toArray = ls at hl ⊢
  have hl : lv_has ls 2 [(0, .ref x0)] := hl
  exact bL_shaft_b0 C0 Y hl9 ht9 S _ _ _ 0 0 h hO hS hl (by decide) (by decide)

theorem hd_L_link : nmOk yL_link 6 := by unfold nmOk; decide +kernel
def rm_L_link : Room := { frames := 10, cells := 94, slots := 2207, locals := 260 }
def wL_link_b0 (x0 : Nat) (x1 : Int32) (x2 : Int32) (x3 : Int32) (x4 : Int32) (x5 : Int32) (Φ : Hp → Int32 → Prop) (S : Hp) : Prop := isA S x0 7 ∧ wX7_link S x0 x1 x2 x3 x4 x5 (fun S1 r2 => Φ S1 r2) (fun S9 E9 => (E9 = "java/lang/IndexOutOfBoundsException" ∧ Φ S9 (-900001)) ∨ (E9 = "java/lang/IllegalArgumentException" ∧ Φ S9 (-900002)) ∨ (E9 = "java/lang/UnsupportedOperationException" ∧ Φ S9 (-900003)) ∨ (E9 = "java/lang/IllegalStateException" ∧ Φ S9 (-900004)))
set_option maxHeartbeats 4000000 in
set_option maxRecDepth 100000 in
theorem bL_link_b0 {p : Program} {l : Launch} {e : Env} {s : State} {m : MethodId} {args : Array Value} {below : List Frame} {meth : Method} {c : Code} {G : Gw} {x0 : Nat} {x1 : Int32} {x2 : Int32} {x3 : Int32} {x4 : Int32} {x5 : Int32} {Φ : Hp → Int32 → Prop} (C0 : Mx p s m c cL_link 7 args yL_link.cls G) (Y : My meth (some .int)) (hl9 : l.stackTraces = false) (ht9 : c.exceptionTable.toList = tableOf [(0, 11, 12, 22), (0, 11, 17, 24), (0, 11, 22, 27), (0, 11, 27, 15)])  : ∀ (S : Hp) (H : Heap) (locs : List Loc) (ls : Array Slot) (cells slots : Nat), wL_link_b0 x0 x1 x2 x3 x4 x5 Φ S → Ok G S H → va_S (Ab G.b) s.heap H locs → lv_has ls 7 [(0, .ref x0), (1, .int x1), (2, .int x2), (3, .int x3), (4, .int x4), (5, .int x5)] → cells + (94) ≤ 94 → slots + (2207) ≤ 2207 → W p l e rm_L_link s m args below meth c H locs cells slots (MQ below (gQ G (PI Φ)) args s rm_L_link.cells rm_L_link.slots (Ab G.b)) (F0 m 0 ls []) := by
  intro S H locs ls cells slots h hO hS hl hcc hss
  unfold wL_link_b0 at h
  refine lv_aload_n C0.1 C0.2.1 dL_link_0 rfl (lv_at hl 0 rfl) ?_
  refine lv_iload_n C0.1 C0.2.1 dL_link_1 rfl (lv_at hl 1 rfl) ?_
  refine lv_iload_n C0.1 C0.2.1 dL_link_2 rfl (lv_at hl 2 rfl) ?_
  refine lv_iload_n C0.1 C0.2.1 dL_link_3 rfl (lv_at hl 3 rfl) ?_
  refine lv_iload C0.1 C0.2.1 dL_link_4 (lv_at hl 4 rfl) ?_
  refine lv_iload C0.1 C0.2.1 dL_link_6 (lv_at hl 5 rfl) ?_
  obtain ⟨i3, h⟩ := h
  refine y_V C0 hO hS (mX7_link hl9 h) i3 (by decide) rfl rfl tb_543 tb_544 tb_545 tb_27 tb_546 hd_X7_link rfl ⟨⟨by decide, by decide⟩, by show _ + 94 ≤ 94; omega, by show _ + 2207 ≤ 2207; omega⟩ hl.1 rfl (Nat.le_of_ble_eq_true rfl) dL_link_8 (fun E9 ce9 q9 S9 H locs h hO hS hcell hv9 hcl => ?_) (kI (fun r2 S1 H locs h hO hS => ?_))
  · rcases h with ⟨rfl, h⟩ | ⟨rfl, h⟩ | ⟨rfl, h⟩ | ⟨rfl, h⟩
    · refine k_catch C0 ht9 (tableOf []) ⟨0, 11, 12, 22⟩ (tableOf [(0, 11, 17, 24), (0, 11, 22, 27), (0, 11, 27, 15)]) rfl (fun z hz => absurd hz (List.not_mem_nil)) rfl (by decide) tb_520 (by decide +kernel) hcell hv9 hcl ?_
      change W _ _ _ _ _ _ _ _ _ _ _ _ (_ + 94) (_ + 2207) _ _
      refine lv_astore C0.1 C0.2.1 dL_link_12 hl (by decide) rfl (fun ls hl => ?_)
      refine lv_ldc (v := (-900001)) C0.1 C0.2.1 C0.2.2.2.1 (C0.2.2.2.2.1 _ tb_516) dL_link_14 ?_
      exact e_I C0 Y hO hS h (by show _ ≤ 94; omega) (by show _ ≤ 2207; omega) dL_link_16
    · refine k_catch C0 ht9 (tableOf [(0, 11, 12, 22)]) ⟨0, 11, 17, 24⟩ (tableOf [(0, 11, 22, 27), (0, 11, 27, 15)]) rfl (List.forall_mem_cons.mpr ⟨no_of C0 (by decide) tb_520 (by decide +kernel), (fun z hz => absurd hz (List.not_mem_nil))⟩) rfl (by decide) tb_541 (by decide +kernel) hcell hv9 hcl ?_
      change W _ _ _ _ _ _ _ _ _ _ _ _ (_ + 94) (_ + 2207) _ _
      refine lv_astore C0.1 C0.2.1 dL_link_17 hl (by decide) rfl (fun ls hl => ?_)
      refine lv_ldc (v := (-900002)) C0.1 C0.2.1 C0.2.2.2.1 (C0.2.2.2.2.1 _ tb_716) dL_link_19 ?_
      exact e_I C0 Y hO hS h (by show _ ≤ 94; omega) (by show _ ≤ 2207; omega) dL_link_21
    · refine k_catch C0 ht9 (tableOf [(0, 11, 12, 22), (0, 11, 17, 24)]) ⟨0, 11, 22, 27⟩ (tableOf [(0, 11, 27, 15)]) rfl (List.forall_mem_cons.mpr ⟨no_of C0 (by decide) tb_520 (by decide +kernel), (List.forall_mem_cons.mpr ⟨no_of C0 (by decide) tb_541 (by decide +kernel), (fun z hz => absurd hz (List.not_mem_nil))⟩)⟩) rfl (by decide) tb_542 (by decide +kernel) hcell hv9 hcl ?_
      change W _ _ _ _ _ _ _ _ _ _ _ _ (_ + 94) (_ + 2207) _ _
      refine lv_astore C0.1 C0.2.1 dL_link_22 hl (by decide) rfl (fun ls hl => ?_)
      refine lv_ldc (v := (-900003)) C0.1 C0.2.1 C0.2.2.2.1 (C0.2.2.2.2.1 _ tb_717) dL_link_24 ?_
      exact e_I C0 Y hO hS h (by show _ ≤ 94; omega) (by show _ ≤ 2207; omega) dL_link_26
    · refine k_catch C0 ht9 (tableOf [(0, 11, 12, 22), (0, 11, 17, 24), (0, 11, 22, 27)]) ⟨0, 11, 27, 15⟩ (tableOf []) rfl (List.forall_mem_cons.mpr ⟨no_of C0 (by decide) tb_520 (by decide +kernel), (List.forall_mem_cons.mpr ⟨no_of C0 (by decide) tb_541 (by decide +kernel), (List.forall_mem_cons.mpr ⟨no_of C0 (by decide) tb_542 (by decide +kernel), (fun z hz => absurd hz (List.not_mem_nil))⟩)⟩)⟩) rfl (by decide) tb_495 (by decide +kernel) hcell hv9 hcl ?_
      change W _ _ _ _ _ _ _ _ _ _ _ _ (_ + 94) (_ + 2207) _ _
      refine lv_astore C0.1 C0.2.1 dL_link_27 hl (by decide) rfl (fun ls hl => ?_)
      refine lv_ldc (v := (-900004)) C0.1 C0.2.1 C0.2.2.2.1 (C0.2.2.2.2.1 _ tb_718) dL_link_29 ?_
      exact e_I C0 Y hO hS h (by show _ ≤ 94; omega) (by show _ ≤ 2207; omega) dL_link_31
  · change W _ _ _ _ _ _ _ _ _ _ _ _ (_ + 94) (_ + 2207) _ _
    exact e_I C0 Y hO hS h (by show _ ≤ 94; omega) (by show _ ≤ 2207; omega) dL_link_11
def wL_link (S : Hp) (x0 : Nat) (x1 : Int32) (x2 : Int32) (x3 : Int32) (x4 : Int32) (x5 : Int32) (Φ : Hp → Int32 → Prop) : Prop := wL_link_b0 x0 x1 x2 x3 x4 x5 Φ S
set_option maxRecDepth 100000 in
theorem mL_link {l : Launch} {G : Gw} (hl9 : l.stackTraces = false) {S : Hp} {x0 : Nat} {x1 : Int32} {x2 : Int32} {x3 : Int32} {x4 : Int32} {x5 : Int32} {Φ : Hp → Int32 → Prop} (h : wL_link S x0 x1 x2 x3 x4 x5 Φ) : gW l yL_link cL_link 7 (some .int) [(0, 11, 12, 22), (0, 11, 17, 24), (0, 11, 22, 27), (0, 11, 27, 15)] rm_L_link [.ref x0, .int x1, .int x2, .int x3, .int x4, .int x5] G S (PI Φ) := by
  unfold gW
  refine va_MetW (hh := [(0, 11, 12, 22), (0, 11, 17, 24), (0, 11, 22, 27), (0, 11, 27, 15)]) (cc := cL_link) (maxL := 7) (ret := (some .int)) (by decide) rfl ?_
  intro p e s m args below meth c s₁ B hml hv
  obtain ⟨rfl, hw⟩ := hv
  obtain ⟨C0, Y, hO, ht9⟩ := mx_ofW B hml hw
  have hS : va_S (Ab G.b) s.heap s.heap [] := va_S.rf
  have hl := lv_entry ([.ref x0, .int x1, .int x2, .int x3, .int x4, .int x5]) (n := 7) (Nat.le_of_ble_eq_true rfl)
  rw [lg_entry_eq]
  generalize (lg_sl ([.ref x0, .int x1, .int x2, .int x3, .int x4, .int x5]) ++ List.replicate (7 - (lg_sl ([.ref x0, .int x1, .int x2, .int x3, .int x4, .int x5])).length) Slot.unset).toArray = ls at hl ⊢
  have hl : lv_has ls 7 [(0, .ref x0), (1, .int x1), (2, .int x2), (3, .int x3), (4, .int x4), (5, .int x5)] := hl
  exact bL_link_b0 C0 Y hl9 ht9 S _ _ _ 0 0 h hO hS hl (by decide) (by decide)

theorem hd_L_planets : nmOk yL_planets 6 := by unfold nmOk; decide +kernel
def rm_L_planets : Room := { frames := 10, cells := 97, slots := 2225, locals := 260 }
def wL_planets_b0 (x0 : Nat) (x1 : Int32) (x2 : Int32) (x3 : Int32) (x4 : Int32) (x5 : Int32) (Φ : Hp → Int32 → Prop) (S : Hp) : Prop := isA S x0 7 ∧ wX7_planets S x0 x1 x2 x3 x4 x5 (fun S1 r2 => Φ S1 r2) (fun S9 E9 => (E9 = "java/lang/IndexOutOfBoundsException" ∧ Φ S9 (-900001)) ∨ (E9 = "java/lang/IllegalArgumentException" ∧ Φ S9 (-900002)) ∨ (E9 = "java/lang/UnsupportedOperationException" ∧ Φ S9 (-900003)) ∨ (E9 = "java/lang/IllegalStateException" ∧ Φ S9 (-900004)))
set_option maxHeartbeats 4000000 in
set_option maxRecDepth 100000 in
theorem bL_planets_b0 {p : Program} {l : Launch} {e : Env} {s : State} {m : MethodId} {args : Array Value} {below : List Frame} {meth : Method} {c : Code} {G : Gw} {x0 : Nat} {x1 : Int32} {x2 : Int32} {x3 : Int32} {x4 : Int32} {x5 : Int32} {Φ : Hp → Int32 → Prop} (C0 : Mx p s m c cL_planets 7 args yL_planets.cls G) (Y : My meth (some .int)) (hl9 : l.stackTraces = false) (ht9 : c.exceptionTable.toList = tableOf [(0, 11, 12, 22), (0, 11, 17, 24), (0, 11, 22, 27), (0, 11, 27, 15)])  : ∀ (S : Hp) (H : Heap) (locs : List Loc) (ls : Array Slot) (cells slots : Nat), wL_planets_b0 x0 x1 x2 x3 x4 x5 Φ S → Ok G S H → va_S (Ab G.b) s.heap H locs → lv_has ls 7 [(0, .ref x0), (1, .int x1), (2, .int x2), (3, .int x3), (4, .int x4), (5, .int x5)] → cells + (97) ≤ 97 → slots + (2225) ≤ 2225 → W p l e rm_L_planets s m args below meth c H locs cells slots (MQ below (gQ G (PI Φ)) args s rm_L_planets.cells rm_L_planets.slots (Ab G.b)) (F0 m 0 ls []) := by
  intro S H locs ls cells slots h hO hS hl hcc hss
  unfold wL_planets_b0 at h
  refine lv_aload_n C0.1 C0.2.1 dL_planets_0 rfl (lv_at hl 0 rfl) ?_
  refine lv_iload_n C0.1 C0.2.1 dL_planets_1 rfl (lv_at hl 1 rfl) ?_
  refine lv_iload_n C0.1 C0.2.1 dL_planets_2 rfl (lv_at hl 2 rfl) ?_
  refine lv_iload_n C0.1 C0.2.1 dL_planets_3 rfl (lv_at hl 3 rfl) ?_
  refine lv_iload C0.1 C0.2.1 dL_planets_4 (lv_at hl 4 rfl) ?_
  refine lv_iload C0.1 C0.2.1 dL_planets_6 (lv_at hl 5 rfl) ?_
  obtain ⟨i3, h⟩ := h
  refine y_V C0 hO hS (mX7_planets hl9 h) i3 (by decide) rfl rfl tb_722 tb_723 tb_724 tb_27 tb_725 hd_X7_planets rfl ⟨⟨by decide, by decide⟩, by show _ + 97 ≤ 97; omega, by show _ + 2225 ≤ 2225; omega⟩ hl.1 rfl (Nat.le_of_ble_eq_true rfl) dL_planets_8 (fun E9 ce9 q9 S9 H locs h hO hS hcell hv9 hcl => ?_) (kI (fun r2 S1 H locs h hO hS => ?_))
  · rcases h with ⟨rfl, h⟩ | ⟨rfl, h⟩ | ⟨rfl, h⟩ | ⟨rfl, h⟩
    · refine k_catch C0 ht9 (tableOf []) ⟨0, 11, 12, 22⟩ (tableOf [(0, 11, 17, 24), (0, 11, 22, 27), (0, 11, 27, 15)]) rfl (fun z hz => absurd hz (List.not_mem_nil)) rfl (by decide) tb_520 (by decide +kernel) hcell hv9 hcl ?_
      change W _ _ _ _ _ _ _ _ _ _ _ _ (_ + 97) (_ + 2225) _ _
      refine lv_astore C0.1 C0.2.1 dL_planets_12 hl (by decide) rfl (fun ls hl => ?_)
      refine lv_ldc (v := (-900001)) C0.1 C0.2.1 C0.2.2.2.1 (C0.2.2.2.2.1 _ tb_516) dL_planets_14 ?_
      exact e_I C0 Y hO hS h (by show _ ≤ 97; omega) (by show _ ≤ 2225; omega) dL_planets_16
    · refine k_catch C0 ht9 (tableOf [(0, 11, 12, 22)]) ⟨0, 11, 17, 24⟩ (tableOf [(0, 11, 22, 27), (0, 11, 27, 15)]) rfl (List.forall_mem_cons.mpr ⟨no_of C0 (by decide) tb_520 (by decide +kernel), (fun z hz => absurd hz (List.not_mem_nil))⟩) rfl (by decide) tb_541 (by decide +kernel) hcell hv9 hcl ?_
      change W _ _ _ _ _ _ _ _ _ _ _ _ (_ + 97) (_ + 2225) _ _
      refine lv_astore C0.1 C0.2.1 dL_planets_17 hl (by decide) rfl (fun ls hl => ?_)
      refine lv_ldc (v := (-900002)) C0.1 C0.2.1 C0.2.2.2.1 (C0.2.2.2.2.1 _ tb_716) dL_planets_19 ?_
      exact e_I C0 Y hO hS h (by show _ ≤ 97; omega) (by show _ ≤ 2225; omega) dL_planets_21
    · refine k_catch C0 ht9 (tableOf [(0, 11, 12, 22), (0, 11, 17, 24)]) ⟨0, 11, 22, 27⟩ (tableOf [(0, 11, 27, 15)]) rfl (List.forall_mem_cons.mpr ⟨no_of C0 (by decide) tb_520 (by decide +kernel), (List.forall_mem_cons.mpr ⟨no_of C0 (by decide) tb_541 (by decide +kernel), (fun z hz => absurd hz (List.not_mem_nil))⟩)⟩) rfl (by decide) tb_542 (by decide +kernel) hcell hv9 hcl ?_
      change W _ _ _ _ _ _ _ _ _ _ _ _ (_ + 97) (_ + 2225) _ _
      refine lv_astore C0.1 C0.2.1 dL_planets_22 hl (by decide) rfl (fun ls hl => ?_)
      refine lv_ldc (v := (-900003)) C0.1 C0.2.1 C0.2.2.2.1 (C0.2.2.2.2.1 _ tb_717) dL_planets_24 ?_
      exact e_I C0 Y hO hS h (by show _ ≤ 97; omega) (by show _ ≤ 2225; omega) dL_planets_26
    · refine k_catch C0 ht9 (tableOf [(0, 11, 12, 22), (0, 11, 17, 24), (0, 11, 22, 27)]) ⟨0, 11, 27, 15⟩ (tableOf []) rfl (List.forall_mem_cons.mpr ⟨no_of C0 (by decide) tb_520 (by decide +kernel), (List.forall_mem_cons.mpr ⟨no_of C0 (by decide) tb_541 (by decide +kernel), (List.forall_mem_cons.mpr ⟨no_of C0 (by decide) tb_542 (by decide +kernel), (fun z hz => absurd hz (List.not_mem_nil))⟩)⟩)⟩) rfl (by decide) tb_495 (by decide +kernel) hcell hv9 hcl ?_
      change W _ _ _ _ _ _ _ _ _ _ _ _ (_ + 97) (_ + 2225) _ _
      refine lv_astore C0.1 C0.2.1 dL_planets_27 hl (by decide) rfl (fun ls hl => ?_)
      refine lv_ldc (v := (-900004)) C0.1 C0.2.1 C0.2.2.2.1 (C0.2.2.2.2.1 _ tb_718) dL_planets_29 ?_
      exact e_I C0 Y hO hS h (by show _ ≤ 97; omega) (by show _ ≤ 2225; omega) dL_planets_31
  · change W _ _ _ _ _ _ _ _ _ _ _ _ (_ + 97) (_ + 2225) _ _
    exact e_I C0 Y hO hS h (by show _ ≤ 97; omega) (by show _ ≤ 2225; omega) dL_planets_11
def wL_planets (S : Hp) (x0 : Nat) (x1 : Int32) (x2 : Int32) (x3 : Int32) (x4 : Int32) (x5 : Int32) (Φ : Hp → Int32 → Prop) : Prop := wL_planets_b0 x0 x1 x2 x3 x4 x5 Φ S
set_option maxRecDepth 100000 in
theorem mL_planets {l : Launch} {G : Gw} (hl9 : l.stackTraces = false) {S : Hp} {x0 : Nat} {x1 : Int32} {x2 : Int32} {x3 : Int32} {x4 : Int32} {x5 : Int32} {Φ : Hp → Int32 → Prop} (h : wL_planets S x0 x1 x2 x3 x4 x5 Φ) : gW l yL_planets cL_planets 7 (some .int) [(0, 11, 12, 22), (0, 11, 17, 24), (0, 11, 22, 27), (0, 11, 27, 15)] rm_L_planets [.ref x0, .int x1, .int x2, .int x3, .int x4, .int x5] G S (PI Φ) := by
  unfold gW
  refine va_MetW (hh := [(0, 11, 12, 22), (0, 11, 17, 24), (0, 11, 22, 27), (0, 11, 27, 15)]) (cc := cL_planets) (maxL := 7) (ret := (some .int)) (by decide) rfl ?_
  intro p e s m args below meth c s₁ B hml hv
  obtain ⟨rfl, hw⟩ := hv
  obtain ⟨C0, Y, hO, ht9⟩ := mx_ofW B hml hw
  have hS : va_S (Ab G.b) s.heap s.heap [] := va_S.rf
  have hl := lv_entry ([.ref x0, .int x1, .int x2, .int x3, .int x4, .int x5]) (n := 7) (Nat.le_of_ble_eq_true rfl)
  rw [lg_entry_eq]
  generalize (lg_sl ([.ref x0, .int x1, .int x2, .int x3, .int x4, .int x5]) ++ List.replicate (7 - (lg_sl ([.ref x0, .int x1, .int x2, .int x3, .int x4, .int x5])).length) Slot.unset).toArray = ls at hl ⊢
  have hl : lv_has ls 7 [(0, .ref x0), (1, .int x1), (2, .int x2), (3, .int x3), (4, .int x4), (5, .int x5)] := hl
  exact bL_planets_b0 C0 Y hl9 ht9 S _ _ _ 0 0 h hO hS hl (by decide) (by decide)

theorem hd_L_turn : nmOk yL_turn 3 := by unfold nmOk; decide +kernel
def rm_L_turn : Room := { frames := 8, cells := 3, slots := 18, locals := 155 }
def wL_turn_b0 (x0 : Nat) (x1 : Int32) (x2 : Int32) (Φ : Hp → Int32 → Prop) (S : Hp) : Prop := isA S x0 7 ∧ wX7_turn S x0 x1 x2 (fun S1 r2 => Φ S1 r2) (fun S9 E9 => (E9 = "java/lang/IndexOutOfBoundsException" ∧ Φ S9 (-900001)) ∨ (E9 = "java/lang/IllegalArgumentException" ∧ Φ S9 (-900002)) ∨ (E9 = "java/lang/UnsupportedOperationException" ∧ Φ S9 (-900003)))
set_option maxHeartbeats 4000000 in
set_option maxRecDepth 100000 in
theorem bL_turn_b0 {p : Program} {l : Launch} {e : Env} {s : State} {m : MethodId} {args : Array Value} {below : List Frame} {meth : Method} {c : Code} {G : Gw} {x0 : Nat} {x1 : Int32} {x2 : Int32} {Φ : Hp → Int32 → Prop} (C0 : Mx p s m c cL_turn 4 args yL_turn.cls G) (Y : My meth (some .int)) (hl9 : l.stackTraces = false) (ht9 : c.exceptionTable.toList = tableOf [(0, 6, 7, 22), (0, 6, 11, 24), (0, 6, 15, 27)])  : ∀ (S : Hp) (H : Heap) (locs : List Loc) (ls : Array Slot) (cells slots : Nat), wL_turn_b0 x0 x1 x2 Φ S → Ok G S H → va_S (Ab G.b) s.heap H locs → lv_has ls 4 [(0, .ref x0), (1, .int x1), (2, .int x2)] → cells + (3) ≤ 3 → slots + (18) ≤ 18 → W p l e rm_L_turn s m args below meth c H locs cells slots (MQ below (gQ G (PI Φ)) args s rm_L_turn.cells rm_L_turn.slots (Ab G.b)) (F0 m 0 ls []) := by
  intro S H locs ls cells slots h hO hS hl hcc hss
  unfold wL_turn_b0 at h
  refine lv_aload_n C0.1 C0.2.1 dL_turn_0 rfl (lv_at hl 0 rfl) ?_
  refine lv_iload_n C0.1 C0.2.1 dL_turn_1 rfl (lv_at hl 1 rfl) ?_
  refine lv_iload_n C0.1 C0.2.1 dL_turn_2 rfl (lv_at hl 2 rfl) ?_
  obtain ⟨i3, h⟩ := h
  refine y_V C0 hO hS (mX7_turn hl9 h) i3 (by decide) rfl rfl tb_734 tb_735 tb_736 tb_27 tb_737 hd_X7_turn rfl ⟨⟨by decide, by decide⟩, by show _ + 3 ≤ 3; omega, by show _ + 18 ≤ 18; omega⟩ hl.1 rfl (Nat.le_of_ble_eq_true rfl) dL_turn_3 (fun E9 ce9 q9 S9 H locs h hO hS hcell hv9 hcl => ?_) (kI (fun r2 S1 H locs h hO hS => ?_))
  · rcases h with ⟨rfl, h⟩ | ⟨rfl, h⟩ | ⟨rfl, h⟩
    · refine k_catch C0 ht9 (tableOf []) ⟨0, 6, 7, 22⟩ (tableOf [(0, 6, 11, 24), (0, 6, 15, 27)]) rfl (fun z hz => absurd hz (List.not_mem_nil)) rfl (by decide) tb_520 (by decide +kernel) hcell hv9 hcl ?_
      change W _ _ _ _ _ _ _ _ _ _ _ _ (_ + 3) (_ + 18) _ _
      refine lv_astore_n C0.1 C0.2.1 dL_turn_7 rfl hl (by decide) rfl (fun ls hl => ?_)
      refine lv_ldc (v := (-900001)) C0.1 C0.2.1 C0.2.2.2.1 (C0.2.2.2.2.1 _ tb_516) dL_turn_8 ?_
      exact e_I C0 Y hO hS h (by show _ ≤ 3; omega) (by show _ ≤ 18; omega) dL_turn_10
    · refine k_catch C0 ht9 (tableOf [(0, 6, 7, 22)]) ⟨0, 6, 11, 24⟩ (tableOf [(0, 6, 15, 27)]) rfl (List.forall_mem_cons.mpr ⟨no_of C0 (by decide) tb_520 (by decide +kernel), (fun z hz => absurd hz (List.not_mem_nil))⟩) rfl (by decide) tb_541 (by decide +kernel) hcell hv9 hcl ?_
      change W _ _ _ _ _ _ _ _ _ _ _ _ (_ + 3) (_ + 18) _ _
      refine lv_astore_n C0.1 C0.2.1 dL_turn_11 rfl hl (by decide) rfl (fun ls hl => ?_)
      refine lv_ldc (v := (-900002)) C0.1 C0.2.1 C0.2.2.2.1 (C0.2.2.2.2.1 _ tb_716) dL_turn_12 ?_
      exact e_I C0 Y hO hS h (by show _ ≤ 3; omega) (by show _ ≤ 18; omega) dL_turn_14
    · refine k_catch C0 ht9 (tableOf [(0, 6, 7, 22), (0, 6, 11, 24)]) ⟨0, 6, 15, 27⟩ (tableOf []) rfl (List.forall_mem_cons.mpr ⟨no_of C0 (by decide) tb_520 (by decide +kernel), (List.forall_mem_cons.mpr ⟨no_of C0 (by decide) tb_541 (by decide +kernel), (fun z hz => absurd hz (List.not_mem_nil))⟩)⟩) rfl (by decide) tb_542 (by decide +kernel) hcell hv9 hcl ?_
      change W _ _ _ _ _ _ _ _ _ _ _ _ (_ + 3) (_ + 18) _ _
      refine lv_astore_n C0.1 C0.2.1 dL_turn_15 rfl hl (by decide) rfl (fun ls hl => ?_)
      refine lv_ldc (v := (-900003)) C0.1 C0.2.1 C0.2.2.2.1 (C0.2.2.2.2.1 _ tb_717) dL_turn_16 ?_
      exact e_I C0 Y hO hS h (by show _ ≤ 3; omega) (by show _ ≤ 18; omega) dL_turn_18
  · change W _ _ _ _ _ _ _ _ _ _ _ _ (_ + 3) (_ + 18) _ _
    exact e_I C0 Y hO hS h (by show _ ≤ 3; omega) (by show _ ≤ 18; omega) dL_turn_6
def wL_turn (S : Hp) (x0 : Nat) (x1 : Int32) (x2 : Int32) (Φ : Hp → Int32 → Prop) : Prop := wL_turn_b0 x0 x1 x2 Φ S
set_option maxRecDepth 100000 in
theorem mL_turn {l : Launch} {G : Gw} (hl9 : l.stackTraces = false) {S : Hp} {x0 : Nat} {x1 : Int32} {x2 : Int32} {Φ : Hp → Int32 → Prop} (h : wL_turn S x0 x1 x2 Φ) : gW l yL_turn cL_turn 4 (some .int) [(0, 6, 7, 22), (0, 6, 11, 24), (0, 6, 15, 27)] rm_L_turn [.ref x0, .int x1, .int x2] G S (PI Φ) := by
  unfold gW
  refine va_MetW (hh := [(0, 6, 7, 22), (0, 6, 11, 24), (0, 6, 15, 27)]) (cc := cL_turn) (maxL := 4) (ret := (some .int)) (by decide) rfl ?_
  intro p e s m args below meth c s₁ B hml hv
  obtain ⟨rfl, hw⟩ := hv
  obtain ⟨C0, Y, hO, ht9⟩ := mx_ofW B hml hw
  have hS : va_S (Ab G.b) s.heap s.heap [] := va_S.rf
  have hl := lv_entry ([.ref x0, .int x1, .int x2]) (n := 4) (Nat.le_of_ble_eq_true rfl)
  rw [lg_entry_eq]
  generalize (lg_sl ([.ref x0, .int x1, .int x2]) ++ List.replicate (4 - (lg_sl ([.ref x0, .int x1, .int x2])).length) Slot.unset).toArray = ls at hl ⊢
  have hl : lv_has ls 4 [(0, .ref x0), (1, .int x1), (2, .int x2)] := hl
  exact bL_turn_b0 C0 Y hl9 ht9 S _ _ _ 0 0 h hO hS hl (by decide) (by decide)

theorem hd_L_driver : nmOk yL_driver 2 := by unfold nmOk; decide +kernel
def rm_L_driver : Room := { frames := 8, cells := 2, slots := 12, locals := 132 }
def wL_driver_b0 (x0 : Nat) (x1 : Int32) (Φ : Hp → Int32 → Prop) (S : Hp) : Prop := isA S x0 7 ∧ wX7_driver S x0 x1 (fun S1 r2 => Φ S1 r2) (fun S9 E9 => (E9 = "java/lang/IndexOutOfBoundsException" ∧ Φ S9 (-900001)) ∨ (E9 = "java/util/NoSuchElementException" ∧ Φ S9 (-900002)))
set_option maxHeartbeats 4000000 in
set_option maxRecDepth 100000 in
theorem bL_driver_b0 {p : Program} {l : Launch} {e : Env} {s : State} {m : MethodId} {args : Array Value} {below : List Frame} {meth : Method} {c : Code} {G : Gw} {x0 : Nat} {x1 : Int32} {Φ : Hp → Int32 → Prop} (C0 : Mx p s m c cL_driver 3 args yL_driver.cls G) (Y : My meth (some .int)) (hl9 : l.stackTraces = false) (ht9 : c.exceptionTable.toList = tableOf [(0, 5, 6, 22), (0, 5, 10, 43)])  : ∀ (S : Hp) (H : Heap) (locs : List Loc) (ls : Array Slot) (cells slots : Nat), wL_driver_b0 x0 x1 Φ S → Ok G S H → va_S (Ab G.b) s.heap H locs → lv_has ls 3 [(0, .ref x0), (1, .int x1)] → cells + (2) ≤ 2 → slots + (12) ≤ 12 → W p l e rm_L_driver s m args below meth c H locs cells slots (MQ below (gQ G (PI Φ)) args s rm_L_driver.cells rm_L_driver.slots (Ab G.b)) (F0 m 0 ls []) := by
  intro S H locs ls cells slots h hO hS hl hcc hss
  unfold wL_driver_b0 at h
  refine lv_aload_n C0.1 C0.2.1 dL_driver_0 rfl (lv_at hl 0 rfl) ?_
  refine lv_iload_n C0.1 C0.2.1 dL_driver_1 rfl (lv_at hl 1 rfl) ?_
  obtain ⟨i3, h⟩ := h
  refine y_V C0 hO hS (mX7_driver hl9 h) i3 (by decide) rfl rfl tb_794 tb_795 tb_796 tb_27 tb_797 hd_X7_driver rfl ⟨⟨by decide, by decide⟩, by show _ + 2 ≤ 2; omega, by show _ + 12 ≤ 12; omega⟩ hl.1 rfl (Nat.le_of_ble_eq_true rfl) dL_driver_2 (fun E9 ce9 q9 S9 H locs h hO hS hcell hv9 hcl => ?_) (kI (fun r2 S1 H locs h hO hS => ?_))
  · rcases h with ⟨rfl, h⟩ | ⟨rfl, h⟩
    · refine k_catch C0 ht9 (tableOf []) ⟨0, 5, 6, 22⟩ (tableOf [(0, 5, 10, 43)]) rfl (fun z hz => absurd hz (List.not_mem_nil)) rfl (by decide) tb_520 (by decide +kernel) hcell hv9 hcl ?_
      change W _ _ _ _ _ _ _ _ _ _ _ _ (_ + 2) (_ + 12) _ _
      refine lv_astore_n C0.1 C0.2.1 dL_driver_6 rfl hl (by decide) rfl (fun ls hl => ?_)
      refine lv_ldc (v := (-900001)) C0.1 C0.2.1 C0.2.2.2.1 (C0.2.2.2.2.1 _ tb_516) dL_driver_7 ?_
      exact e_I C0 Y hO hS h (by show _ ≤ 2; omega) (by show _ ≤ 12; omega) dL_driver_9
    · refine k_catch C0 ht9 (tableOf [(0, 5, 6, 22)]) ⟨0, 5, 10, 43⟩ (tableOf []) rfl (List.forall_mem_cons.mpr ⟨no_of C0 (by decide) tb_520 (by decide +kernel), (fun z hz => absurd hz (List.not_mem_nil))⟩) rfl (by decide) tb_793 (by decide +kernel) hcell hv9 hcl ?_
      change W _ _ _ _ _ _ _ _ _ _ _ _ (_ + 2) (_ + 12) _ _
      refine lv_astore_n C0.1 C0.2.1 dL_driver_10 rfl hl (by decide) rfl (fun ls hl => ?_)
      refine lv_ldc (v := (-900002)) C0.1 C0.2.1 C0.2.2.2.1 (C0.2.2.2.2.1 _ tb_716) dL_driver_11 ?_
      exact e_I C0 Y hO hS h (by show _ ≤ 2; omega) (by show _ ≤ 12; omega) dL_driver_13
  · change W _ _ _ _ _ _ _ _ _ _ _ _ (_ + 2) (_ + 12) _ _
    exact e_I C0 Y hO hS h (by show _ ≤ 2; omega) (by show _ ≤ 12; omega) dL_driver_5
def wL_driver (S : Hp) (x0 : Nat) (x1 : Int32) (Φ : Hp → Int32 → Prop) : Prop := wL_driver_b0 x0 x1 Φ S
set_option maxRecDepth 100000 in
theorem mL_driver {l : Launch} {G : Gw} (hl9 : l.stackTraces = false) {S : Hp} {x0 : Nat} {x1 : Int32} {Φ : Hp → Int32 → Prop} (h : wL_driver S x0 x1 Φ) : gW l yL_driver cL_driver 3 (some .int) [(0, 5, 6, 22), (0, 5, 10, 43)] rm_L_driver [.ref x0, .int x1] G S (PI Φ) := by
  unfold gW
  refine va_MetW (hh := [(0, 5, 6, 22), (0, 5, 10, 43)]) (cc := cL_driver) (maxL := 3) (ret := (some .int)) (by decide) rfl ?_
  intro p e s m args below meth c s₁ B hml hv
  obtain ⟨rfl, hw⟩ := hv
  obtain ⟨C0, Y, hO, ht9⟩ := mx_ofW B hml hw
  have hS : va_S (Ab G.b) s.heap s.heap [] := va_S.rf
  have hl := lv_entry ([.ref x0, .int x1]) (n := 3) (Nat.le_of_ble_eq_true rfl)
  rw [lg_entry_eq]
  generalize (lg_sl ([.ref x0, .int x1]) ++ List.replicate (3 - (lg_sl ([.ref x0, .int x1])).length) Slot.unset).toArray = ls at hl ⊢
  have hl : lv_has ls 3 [(0, .ref x0), (1, .int x1)] := hl
  exact bL_driver_b0 C0 Y hl9 ht9 S _ _ _ 0 0 h hO hS hl (by decide) (by decide)

theorem hd_L_placeOver : nmOk yL_placeOver 2 := by unfold nmOk; decide +kernel
def rm_L_placeOver : Room := { frames := 8, cells := 1, slots := 6, locals := 132 }
def wL_placeOver_b0 (x0 : Nat) (x1 : Int32) (Φ : Hp → Int64 → Prop) (S : Hp) : Prop := isA S x0 7 ∧ wX7_placeOver S x0 x1 (fun S1 r2 => Φ S1 r2) (fun S9 E9 => (E9 = "java/lang/IndexOutOfBoundsException" ∧ Φ S9 (-900001)))
set_option maxHeartbeats 4000000 in
set_option maxRecDepth 100000 in
theorem bL_placeOver_b0 {p : Program} {l : Launch} {e : Env} {s : State} {m : MethodId} {args : Array Value} {below : List Frame} {meth : Method} {c : Code} {G : Gw} {x0 : Nat} {x1 : Int32} {Φ : Hp → Int64 → Prop} (C0 : Mx p s m c cL_placeOver 3 args yL_placeOver.cls G) (Y : My meth (some .long)) (hl9 : l.stackTraces = false) (ht9 : c.exceptionTable.toList = tableOf [(0, 5, 6, 22)])  : ∀ (S : Hp) (H : Heap) (locs : List Loc) (ls : Array Slot) (cells slots : Nat), wL_placeOver_b0 x0 x1 Φ S → Ok G S H → va_S (Ab G.b) s.heap H locs → lv_has ls 3 [(0, .ref x0), (1, .int x1)] → cells + (1) ≤ 1 → slots + (6) ≤ 6 → W p l e rm_L_placeOver s m args below meth c H locs cells slots (MQ below (gQ G (PJ Φ)) args s rm_L_placeOver.cells rm_L_placeOver.slots (Ab G.b)) (F0 m 0 ls []) := by
  intro S H locs ls cells slots h hO hS hl hcc hss
  unfold wL_placeOver_b0 at h
  refine lv_aload_n C0.1 C0.2.1 dL_placeOver_0 rfl (lv_at hl 0 rfl) ?_
  refine lv_iload_n C0.1 C0.2.1 dL_placeOver_1 rfl (lv_at hl 1 rfl) ?_
  obtain ⟨i3, h⟩ := h
  refine y_V C0 hO hS (mX7_placeOver hl9 h) i3 (by decide) rfl rfl tb_817 tb_818 tb_819 tb_27 tb_820 hd_X7_placeOver rfl ⟨⟨by decide, by decide⟩, by show _ + 1 ≤ 1; omega, by show _ + 6 ≤ 6; omega⟩ hl.1 rfl (Nat.le_of_ble_eq_true rfl) dL_placeOver_2 (fun E9 ce9 q9 S9 H locs h hO hS hcell hv9 hcl => ?_) (kJ (fun r2 S1 H locs h hO hS => ?_))
  · rcases h with ⟨rfl, h⟩
    · refine k_catch C0 ht9 (tableOf []) ⟨0, 5, 6, 22⟩ (tableOf []) rfl (fun z hz => absurd hz (List.not_mem_nil)) rfl (by decide) tb_520 (by decide +kernel) hcell hv9 hcl ?_
      change W _ _ _ _ _ _ _ _ _ _ _ _ (_ + 1) (_ + 6) _ _
      refine lv_astore_n C0.1 C0.2.1 dL_placeOver_6 rfl hl (by decide) rfl (fun ls hl => ?_)
      refine lv_ldc2 (v := (-900001)) C0.1 C0.2.1 C0.2.2.2.1 (C0.2.2.2.2.1 _ tb_821) dL_placeOver_7 ?_
      exact e_J C0 Y hO hS h (by show _ ≤ 1; omega) (by show _ ≤ 6; omega) dL_placeOver_10
  · change W _ _ _ _ _ _ _ _ _ _ _ _ (_ + 1) (_ + 6) _ _
    exact e_J C0 Y hO hS h (by show _ ≤ 1; omega) (by show _ ≤ 6; omega) dL_placeOver_5
def wL_placeOver (S : Hp) (x0 : Nat) (x1 : Int32) (Φ : Hp → Int64 → Prop) : Prop := wL_placeOver_b0 x0 x1 Φ S
set_option maxRecDepth 100000 in
theorem mL_placeOver {l : Launch} {G : Gw} (hl9 : l.stackTraces = false) {S : Hp} {x0 : Nat} {x1 : Int32} {Φ : Hp → Int64 → Prop} (h : wL_placeOver S x0 x1 Φ) : gW l yL_placeOver cL_placeOver 3 (some .long) [(0, 5, 6, 22)] rm_L_placeOver [.ref x0, .int x1] G S (PJ Φ) := by
  unfold gW
  refine va_MetW (hh := [(0, 5, 6, 22)]) (cc := cL_placeOver) (maxL := 3) (ret := (some .long)) (by decide) rfl ?_
  intro p e s m args below meth c s₁ B hml hv
  obtain ⟨rfl, hw⟩ := hv
  obtain ⟨C0, Y, hO, ht9⟩ := mx_ofW B hml hw
  have hS : va_S (Ab G.b) s.heap s.heap [] := va_S.rf
  have hl := lv_entry ([.ref x0, .int x1]) (n := 3) (Nat.le_of_ble_eq_true rfl)
  rw [lg_entry_eq]
  generalize (lg_sl ([.ref x0, .int x1]) ++ List.replicate (3 - (lg_sl ([.ref x0, .int x1])).length) Slot.unset).toArray = ls at hl ⊢
  have hl : lv_has ls 3 [(0, .ref x0), (1, .int x1)] := hl
  exact bL_placeOver_b0 C0 Y hl9 ht9 S _ _ _ 0 0 h hO hS hl (by decide) (by decide)

theorem hd_L_placeUnder : nmOk yL_placeUnder 2 := by unfold nmOk; decide +kernel
def rm_L_placeUnder : Room := { frames := 8, cells := 1, slots := 6, locals := 132 }
def wL_placeUnder_b0 (x0 : Nat) (x1 : Int32) (Φ : Hp → Int64 → Prop) (S : Hp) : Prop := isA S x0 7 ∧ wX7_placeUnder S x0 x1 (fun S1 r2 => Φ S1 r2) (fun S9 E9 => (E9 = "java/lang/IndexOutOfBoundsException" ∧ Φ S9 (-900001)))
set_option maxHeartbeats 4000000 in
set_option maxRecDepth 100000 in
theorem bL_placeUnder_b0 {p : Program} {l : Launch} {e : Env} {s : State} {m : MethodId} {args : Array Value} {below : List Frame} {meth : Method} {c : Code} {G : Gw} {x0 : Nat} {x1 : Int32} {Φ : Hp → Int64 → Prop} (C0 : Mx p s m c cL_placeUnder 3 args yL_placeUnder.cls G) (Y : My meth (some .long)) (hl9 : l.stackTraces = false) (ht9 : c.exceptionTable.toList = tableOf [(0, 5, 6, 22)])  : ∀ (S : Hp) (H : Heap) (locs : List Loc) (ls : Array Slot) (cells slots : Nat), wL_placeUnder_b0 x0 x1 Φ S → Ok G S H → va_S (Ab G.b) s.heap H locs → lv_has ls 3 [(0, .ref x0), (1, .int x1)] → cells + (1) ≤ 1 → slots + (6) ≤ 6 → W p l e rm_L_placeUnder s m args below meth c H locs cells slots (MQ below (gQ G (PJ Φ)) args s rm_L_placeUnder.cells rm_L_placeUnder.slots (Ab G.b)) (F0 m 0 ls []) := by
  intro S H locs ls cells slots h hO hS hl hcc hss
  unfold wL_placeUnder_b0 at h
  refine lv_aload_n C0.1 C0.2.1 dL_placeUnder_0 rfl (lv_at hl 0 rfl) ?_
  refine lv_iload_n C0.1 C0.2.1 dL_placeUnder_1 rfl (lv_at hl 1 rfl) ?_
  obtain ⟨i3, h⟩ := h
  refine y_V C0 hO hS (mX7_placeUnder hl9 h) i3 (by decide) rfl rfl tb_825 tb_826 tb_827 tb_27 tb_828 hd_X7_placeUnder rfl ⟨⟨by decide, by decide⟩, by show _ + 1 ≤ 1; omega, by show _ + 6 ≤ 6; omega⟩ hl.1 rfl (Nat.le_of_ble_eq_true rfl) dL_placeUnder_2 (fun E9 ce9 q9 S9 H locs h hO hS hcell hv9 hcl => ?_) (kJ (fun r2 S1 H locs h hO hS => ?_))
  · rcases h with ⟨rfl, h⟩
    · refine k_catch C0 ht9 (tableOf []) ⟨0, 5, 6, 22⟩ (tableOf []) rfl (fun z hz => absurd hz (List.not_mem_nil)) rfl (by decide) tb_520 (by decide +kernel) hcell hv9 hcl ?_
      change W _ _ _ _ _ _ _ _ _ _ _ _ (_ + 1) (_ + 6) _ _
      refine lv_astore_n C0.1 C0.2.1 dL_placeUnder_6 rfl hl (by decide) rfl (fun ls hl => ?_)
      refine lv_ldc2 (v := (-900001)) C0.1 C0.2.1 C0.2.2.2.1 (C0.2.2.2.2.1 _ tb_821) dL_placeUnder_7 ?_
      exact e_J C0 Y hO hS h (by show _ ≤ 1; omega) (by show _ ≤ 6; omega) dL_placeUnder_10
  · change W _ _ _ _ _ _ _ _ _ _ _ _ (_ + 1) (_ + 6) _ _
    exact e_J C0 Y hO hS h (by show _ ≤ 1; omega) (by show _ ≤ 6; omega) dL_placeUnder_5
def wL_placeUnder (S : Hp) (x0 : Nat) (x1 : Int32) (Φ : Hp → Int64 → Prop) : Prop := wL_placeUnder_b0 x0 x1 Φ S
set_option maxRecDepth 100000 in
theorem mL_placeUnder {l : Launch} {G : Gw} (hl9 : l.stackTraces = false) {S : Hp} {x0 : Nat} {x1 : Int32} {Φ : Hp → Int64 → Prop} (h : wL_placeUnder S x0 x1 Φ) : gW l yL_placeUnder cL_placeUnder 3 (some .long) [(0, 5, 6, 22)] rm_L_placeUnder [.ref x0, .int x1] G S (PJ Φ) := by
  unfold gW
  refine va_MetW (hh := [(0, 5, 6, 22)]) (cc := cL_placeUnder) (maxL := 3) (ret := (some .long)) (by decide) rfl ?_
  intro p e s m args below meth c s₁ B hml hv
  obtain ⟨rfl, hw⟩ := hv
  obtain ⟨C0, Y, hO, ht9⟩ := mx_ofW B hml hw
  have hS : va_S (Ab G.b) s.heap s.heap [] := va_S.rf
  have hl := lv_entry ([.ref x0, .int x1]) (n := 3) (Nat.le_of_ble_eq_true rfl)
  rw [lg_entry_eq]
  generalize (lg_sl ([.ref x0, .int x1]) ++ List.replicate (3 - (lg_sl ([.ref x0, .int x1])).length) Slot.unset).toArray = ls at hl ⊢
  have hl : lv_has ls 3 [(0, .ref x0), (1, .int x1)] := hl
  exact bL_placeUnder_b0 C0 Y hl9 ht9 S _ _ _ 0 0 h hO hS hl (by decide) (by decide)

theorem hd_L_wornOver : nmOk yL_wornOver 2 := by unfold nmOk; decide +kernel
def rm_L_wornOver : Room := { frames := 8, cells := 1, slots := 6, locals := 132 }
def wL_wornOver_b0 (x0 : Nat) (x1 : Int32) (Φ : Hp → Int64 → Prop) (S : Hp) : Prop := isA S x0 7 ∧ wX7_wornOver S x0 x1 (fun S1 r2 => Φ S1 r2) (fun S9 E9 => (E9 = "java/lang/IndexOutOfBoundsException" ∧ Φ S9 (-900001)))
set_option maxHeartbeats 4000000 in
set_option maxRecDepth 100000 in
theorem bL_wornOver_b0 {p : Program} {l : Launch} {e : Env} {s : State} {m : MethodId} {args : Array Value} {below : List Frame} {meth : Method} {c : Code} {G : Gw} {x0 : Nat} {x1 : Int32} {Φ : Hp → Int64 → Prop} (C0 : Mx p s m c cL_wornOver 3 args yL_wornOver.cls G) (Y : My meth (some .long)) (hl9 : l.stackTraces = false) (ht9 : c.exceptionTable.toList = tableOf [(0, 5, 6, 22)])  : ∀ (S : Hp) (H : Heap) (locs : List Loc) (ls : Array Slot) (cells slots : Nat), wL_wornOver_b0 x0 x1 Φ S → Ok G S H → va_S (Ab G.b) s.heap H locs → lv_has ls 3 [(0, .ref x0), (1, .int x1)] → cells + (1) ≤ 1 → slots + (6) ≤ 6 → W p l e rm_L_wornOver s m args below meth c H locs cells slots (MQ below (gQ G (PJ Φ)) args s rm_L_wornOver.cells rm_L_wornOver.slots (Ab G.b)) (F0 m 0 ls []) := by
  intro S H locs ls cells slots h hO hS hl hcc hss
  unfold wL_wornOver_b0 at h
  refine lv_aload_n C0.1 C0.2.1 dL_wornOver_0 rfl (lv_at hl 0 rfl) ?_
  refine lv_iload_n C0.1 C0.2.1 dL_wornOver_1 rfl (lv_at hl 1 rfl) ?_
  obtain ⟨i3, h⟩ := h
  refine y_V C0 hO hS (mX7_wornOver hl9 h) i3 (by decide) rfl rfl tb_832 tb_833 tb_834 tb_27 tb_835 hd_X7_wornOver rfl ⟨⟨by decide, by decide⟩, by show _ + 1 ≤ 1; omega, by show _ + 6 ≤ 6; omega⟩ hl.1 rfl (Nat.le_of_ble_eq_true rfl) dL_wornOver_2 (fun E9 ce9 q9 S9 H locs h hO hS hcell hv9 hcl => ?_) (kJ (fun r2 S1 H locs h hO hS => ?_))
  · rcases h with ⟨rfl, h⟩
    · refine k_catch C0 ht9 (tableOf []) ⟨0, 5, 6, 22⟩ (tableOf []) rfl (fun z hz => absurd hz (List.not_mem_nil)) rfl (by decide) tb_520 (by decide +kernel) hcell hv9 hcl ?_
      change W _ _ _ _ _ _ _ _ _ _ _ _ (_ + 1) (_ + 6) _ _
      refine lv_astore_n C0.1 C0.2.1 dL_wornOver_6 rfl hl (by decide) rfl (fun ls hl => ?_)
      refine lv_ldc2 (v := (-900001)) C0.1 C0.2.1 C0.2.2.2.1 (C0.2.2.2.2.1 _ tb_821) dL_wornOver_7 ?_
      exact e_J C0 Y hO hS h (by show _ ≤ 1; omega) (by show _ ≤ 6; omega) dL_wornOver_10
  · change W _ _ _ _ _ _ _ _ _ _ _ _ (_ + 1) (_ + 6) _ _
    exact e_J C0 Y hO hS h (by show _ ≤ 1; omega) (by show _ ≤ 6; omega) dL_wornOver_5
def wL_wornOver (S : Hp) (x0 : Nat) (x1 : Int32) (Φ : Hp → Int64 → Prop) : Prop := wL_wornOver_b0 x0 x1 Φ S
set_option maxRecDepth 100000 in
theorem mL_wornOver {l : Launch} {G : Gw} (hl9 : l.stackTraces = false) {S : Hp} {x0 : Nat} {x1 : Int32} {Φ : Hp → Int64 → Prop} (h : wL_wornOver S x0 x1 Φ) : gW l yL_wornOver cL_wornOver 3 (some .long) [(0, 5, 6, 22)] rm_L_wornOver [.ref x0, .int x1] G S (PJ Φ) := by
  unfold gW
  refine va_MetW (hh := [(0, 5, 6, 22)]) (cc := cL_wornOver) (maxL := 3) (ret := (some .long)) (by decide) rfl ?_
  intro p e s m args below meth c s₁ B hml hv
  obtain ⟨rfl, hw⟩ := hv
  obtain ⟨C0, Y, hO, ht9⟩ := mx_ofW B hml hw
  have hS : va_S (Ab G.b) s.heap s.heap [] := va_S.rf
  have hl := lv_entry ([.ref x0, .int x1]) (n := 3) (Nat.le_of_ble_eq_true rfl)
  rw [lg_entry_eq]
  generalize (lg_sl ([.ref x0, .int x1]) ++ List.replicate (3 - (lg_sl ([.ref x0, .int x1])).length) Slot.unset).toArray = ls at hl ⊢
  have hl : lv_has ls 3 [(0, .ref x0), (1, .int x1)] := hl
  exact bL_wornOver_b0 C0 Y hl9 ht9 S _ _ _ 0 0 h hO hS hl (by decide) (by decide)

theorem hd_L_wornUnder : nmOk yL_wornUnder 2 := by unfold nmOk; decide +kernel
def rm_L_wornUnder : Room := { frames := 8, cells := 1, slots := 6, locals := 132 }
def wL_wornUnder_b0 (x0 : Nat) (x1 : Int32) (Φ : Hp → Int64 → Prop) (S : Hp) : Prop := isA S x0 7 ∧ wX7_wornUnder S x0 x1 (fun S1 r2 => Φ S1 r2) (fun S9 E9 => (E9 = "java/lang/IndexOutOfBoundsException" ∧ Φ S9 (-900001)))
set_option maxHeartbeats 4000000 in
set_option maxRecDepth 100000 in
theorem bL_wornUnder_b0 {p : Program} {l : Launch} {e : Env} {s : State} {m : MethodId} {args : Array Value} {below : List Frame} {meth : Method} {c : Code} {G : Gw} {x0 : Nat} {x1 : Int32} {Φ : Hp → Int64 → Prop} (C0 : Mx p s m c cL_wornUnder 3 args yL_wornUnder.cls G) (Y : My meth (some .long)) (hl9 : l.stackTraces = false) (ht9 : c.exceptionTable.toList = tableOf [(0, 5, 6, 22)])  : ∀ (S : Hp) (H : Heap) (locs : List Loc) (ls : Array Slot) (cells slots : Nat), wL_wornUnder_b0 x0 x1 Φ S → Ok G S H → va_S (Ab G.b) s.heap H locs → lv_has ls 3 [(0, .ref x0), (1, .int x1)] → cells + (1) ≤ 1 → slots + (6) ≤ 6 → W p l e rm_L_wornUnder s m args below meth c H locs cells slots (MQ below (gQ G (PJ Φ)) args s rm_L_wornUnder.cells rm_L_wornUnder.slots (Ab G.b)) (F0 m 0 ls []) := by
  intro S H locs ls cells slots h hO hS hl hcc hss
  unfold wL_wornUnder_b0 at h
  refine lv_aload_n C0.1 C0.2.1 dL_wornUnder_0 rfl (lv_at hl 0 rfl) ?_
  refine lv_iload_n C0.1 C0.2.1 dL_wornUnder_1 rfl (lv_at hl 1 rfl) ?_
  obtain ⟨i3, h⟩ := h
  refine y_V C0 hO hS (mX7_wornUnder hl9 h) i3 (by decide) rfl rfl tb_839 tb_840 tb_841 tb_27 tb_842 hd_X7_wornUnder rfl ⟨⟨by decide, by decide⟩, by show _ + 1 ≤ 1; omega, by show _ + 6 ≤ 6; omega⟩ hl.1 rfl (Nat.le_of_ble_eq_true rfl) dL_wornUnder_2 (fun E9 ce9 q9 S9 H locs h hO hS hcell hv9 hcl => ?_) (kJ (fun r2 S1 H locs h hO hS => ?_))
  · rcases h with ⟨rfl, h⟩
    · refine k_catch C0 ht9 (tableOf []) ⟨0, 5, 6, 22⟩ (tableOf []) rfl (fun z hz => absurd hz (List.not_mem_nil)) rfl (by decide) tb_520 (by decide +kernel) hcell hv9 hcl ?_
      change W _ _ _ _ _ _ _ _ _ _ _ _ (_ + 1) (_ + 6) _ _
      refine lv_astore_n C0.1 C0.2.1 dL_wornUnder_6 rfl hl (by decide) rfl (fun ls hl => ?_)
      refine lv_ldc2 (v := (-900001)) C0.1 C0.2.1 C0.2.2.2.1 (C0.2.2.2.2.1 _ tb_821) dL_wornUnder_7 ?_
      exact e_J C0 Y hO hS h (by show _ ≤ 1; omega) (by show _ ≤ 6; omega) dL_wornUnder_10
  · change W _ _ _ _ _ _ _ _ _ _ _ _ (_ + 1) (_ + 6) _ _
    exact e_J C0 Y hO hS h (by show _ ≤ 1; omega) (by show _ ≤ 6; omega) dL_wornUnder_5
def wL_wornUnder (S : Hp) (x0 : Nat) (x1 : Int32) (Φ : Hp → Int64 → Prop) : Prop := wL_wornUnder_b0 x0 x1 Φ S
set_option maxRecDepth 100000 in
theorem mL_wornUnder {l : Launch} {G : Gw} (hl9 : l.stackTraces = false) {S : Hp} {x0 : Nat} {x1 : Int32} {Φ : Hp → Int64 → Prop} (h : wL_wornUnder S x0 x1 Φ) : gW l yL_wornUnder cL_wornUnder 3 (some .long) [(0, 5, 6, 22)] rm_L_wornUnder [.ref x0, .int x1] G S (PJ Φ) := by
  unfold gW
  refine va_MetW (hh := [(0, 5, 6, 22)]) (cc := cL_wornUnder) (maxL := 3) (ret := (some .long)) (by decide) rfl ?_
  intro p e s m args below meth c s₁ B hml hv
  obtain ⟨rfl, hw⟩ := hv
  obtain ⟨C0, Y, hO, ht9⟩ := mx_ofW B hml hw
  have hS : va_S (Ab G.b) s.heap s.heap [] := va_S.rf
  have hl := lv_entry ([.ref x0, .int x1]) (n := 3) (Nat.le_of_ble_eq_true rfl)
  rw [lg_entry_eq]
  generalize (lg_sl ([.ref x0, .int x1]) ++ List.replicate (3 - (lg_sl ([.ref x0, .int x1])).length) Slot.unset).toArray = ls at hl ⊢
  have hl : lv_has ls 3 [(0, .ref x0), (1, .int x1)] := hl
  exact bL_wornUnder_b0 C0 Y hl9 ht9 S _ _ _ 0 0 h hO hS hl (by decide) (by decide)

theorem hd_L_in : nmOk yL_in 3 := by unfold nmOk; decide +kernel
def rm_L_in : Room := { frames := 1, cells := 0, slots := 0, locals := 22 }
def wL_in_b0 (x0 : (Nat → Int32)) (x1 : Int32) (x2 : Int32) (L9 : Nat) (Φ : Hp → Int32 → Prop) (S : Hp) : Prop := wL_cell S x0 L9 x1 (fun S1 r2 => ¬ x2 = 0 ∧ Φ S1 ((r2 &&& 2147483647) - (r2 &&& 2147483647) / x2 * x2))
set_option maxHeartbeats 4000000 in
set_option maxRecDepth 100000 in
theorem bL_in_b0 {p : Program} {l : Launch} {e : Env} {s : State} {m : MethodId} {args : Array Value} {below : List Frame} {meth : Method} {c : Code} {G : Gw} {x1 : Int32} {x2 : Int32}  {Φ : Hp → Int32 → Prop} (C0 : Mx p s m c cL_in 3 args yL_in.cls G) (Y : My meth (some .int))  : ∀ (S : Hp) (H : Heap) (locs : List Loc) (ls : Array Slot), wL_in_b0 G.xs x1 x2 G.xl Φ S → Ok G S H → va_S (Ab G.b) s.heap H locs → lv_has ls 3 [(0, .ref G.xb), (1, .int x1), (2, .int x2)] → W p l e rm_L_in s m args below meth c H locs 0 0 (MQ below (gQ G (PI Φ)) args s rm_L_in.cells rm_L_in.slots (Ab G.b)) (F0 m 0 ls []) := by
  intro S H locs ls h hO hS hl
  unfold wL_in_b0 at h
  refine lv_aload_n C0.1 C0.2.1 dL_in_0 rfl (lv_at hl 0 rfl) ?_
  refine lv_iload_n C0.1 C0.2.1 dL_in_1 rfl (lv_at hl 1 rfl) ?_
  refine c_S C0 hO hS (mL_cell h) tb_846 tb_847 tb_26 tb_848 hd_L_cell rfl ⟨⟨by decide, by decide⟩, by decide, by decide⟩ hl.1 rfl (Nat.le_of_ble_eq_true rfl) dL_in_2 (kI (fun r2 S1 H locs h hO hS => ?_))
  refine lv_ldc (v := 2147483647) C0.1 C0.2.1 C0.2.2.2.1 (C0.2.2.2.2.1 _ tb_851) dL_in_5 ?_
  refine lv_iand C0.1 C0.2.1 dL_in_7 ?_
  refine lv_iload_n C0.1 C0.2.1 dL_in_8 rfl (lv_at hl 2 rfl) ?_
  obtain ⟨e3, h⟩ := h
  refine lv_irem C0.1 C0.2.1 dL_in_9 e3 ?_
  exact e_I C0 Y hO hS h (Nat.le_refl _) (Nat.le_refl _) dL_in_10
def wL_in (S : Hp) (x0 : (Nat → Int32)) (L9 : Nat) (x1 : Int32) (x2 : Int32) (Φ : Hp → Int32 → Prop) : Prop := wL_in_b0 x0 x1 x2 L9 Φ S
set_option maxRecDepth 100000 in
theorem mL_in {l : Launch} {G : Gw} {S : Hp} {x1 : Int32} {x2 : Int32} {Φ : Hp → Int32 → Prop} (h : wL_in S G.xs G.xl x1 x2 Φ) : gM l yL_in cL_in 3 (some .int) rm_L_in [.ref G.xb, .int x1, .int x2] G S (PI Φ) := by
  unfold gM
  refine Met.ofW (cc := cL_in) (maxL := 3) (ret := (some .int)) (by decide) rfl ?_
  intro p e s m args below meth c s₁ B hml hv
  obtain ⟨rfl, hw⟩ := hv
  obtain ⟨C0, Y, hO⟩ := mx_of B hml hw
  have hS : va_S (Ab G.b) s.heap s.heap [] := va_S.rf
  have hl := lv_entry ([.ref G.xb, .int x1, .int x2]) (n := 3) (Nat.le_of_ble_eq_true rfl)
  rw [lg_entry_eq]
  generalize (lg_sl ([.ref G.xb, .int x1, .int x2]) ++ List.replicate (3 - (lg_sl ([.ref G.xb, .int x1, .int x2])).length) Slot.unset).toArray = ls at hl ⊢
  have hl : lv_has ls 3 [(0, .ref G.xb), (1, .int x1), (2, .int x2)] := hl
  exact bL_in_b0 C0 Y S _ _ _ h hO hS hl

theorem hd_L_common : nmOk yL_common 2 := by unfold nmOk; decide +kernel
def rm_L_common (d : Nat) : Room := { frames := 0 + d, cells := 0, slots := 0, locals := 0 + d * 23 }
def wL_common_b0 (rec : Hp → Int64 → Int64 → (Hp → Int64 → Prop) → Prop) (x0 : Int64) (x2 : Int64) (Φ : Hp → Int64 → Prop) (S : Hp) : Prop := ((¬ (lg_cmp x2 0) = 0 → ¬ x2 = 0 ∧ rec S x2 (x0 - x0 / x2 * x2) (fun S3 r4 => Φ S3 r4)) ∧ ((lg_cmp x2 0) = 0 → ((0 ≤ (lg_cmp x0 0) → Φ S x0) ∧ (¬ (0 ≤ (lg_cmp x0 0)) → Φ S (-x0)))))
set_option maxHeartbeats 4000000 in
set_option maxRecDepth 100000 in
theorem bL_common_b0 {p : Program} {l : Launch} {e : Env} {s : State} {m : MethodId} {args : Array Value} {below : List Frame} {meth : Method} {c : Code} {G : Gw} {rec : Hp → Int64 → Int64 → (Hp → Int64 → Prop) → Prop} {x0 : Int64} {x2 : Int64} {Φ : Hp → Int64 → Prop} (C0 : Mx p s m c cL_common 4 args yL_common.cls G) (Y : My meth (some .long)) {d9 : Nat} (ihr : ∀ {S : Hp} {x0 : Int64} {x2 : Int64} {Φ : Hp → Int64 → Prop}, rec S x0 x2 Φ → gM l yL_common cL_common 4 (some .long) (rm_L_common d9) [.long x0, .long x2] G S (PJ Φ))  : ∀ (S : Hp) (H : Heap) (locs : List Loc) (ls : Array Slot), wL_common_b0 rec x0 x2 Φ S → Ok G S H → va_S (Ab G.b) s.heap H locs → lv_has ls 4 [(0, .long x0), (2, .long x2)] → W p l e (rm_L_common (d9 + 1)) s m args below meth c H locs 0 0 (MQ below (gQ G (PJ Φ)) args s (rm_L_common (d9 + 1)).cells (rm_L_common (d9 + 1)).slots (Ab G.b)) (F0 m 0 ls []) := by
  intro S H locs ls h hO hS hl
  unfold wL_common_b0 at h
  refine lv_lload_n C0.1 C0.2.1 dL_common_0 rfl (lv_at hl 1 rfl) ?_
  refine lv_lconst (v := 0) C0.1 C0.2.1 dL_common_1 (by decide) ?_
  refine W.lcmp C0.1 C0.2.1 dL_common_2 ?_
  refine lv_if_ne (tgt := 21) C0.1 C0.2.1 dL_common_3 (by decide) (fun c1 => ?_) (fun c1 => ?_)
  · have h := h.1 c1
    refine lv_lload_n C0.1 C0.2.1 dL_common_21 rfl (lv_at hl 1 rfl) ?_
    refine lv_lload_n C0.1 C0.2.1 dL_common_22 rfl (lv_at hl 0 rfl) ?_
    refine lv_lload_n C0.1 C0.2.1 dL_common_23 rfl (lv_at hl 1 rfl) ?_
    obtain ⟨e2, h⟩ := h
    refine lv_lrem C0.1 C0.2.1 dL_common_24 e2 ?_
    refine c_S C0 hO hS (ihr h) tb_852 tb_853 tb_26 tb_854 hd_L_common rfl ⟨⟨by simp only [rm_L_common]; omega, by simp only [rm_L_common]; omega⟩, Nat.le_refl _, Nat.le_refl _⟩ hl.1 rfl (Nat.le_of_ble_eq_true rfl) dL_common_25 (kJ (fun r4 S3 H locs h hO hS => ?_))
    exact e_J C0 Y hO hS h (Nat.le_refl _) (Nat.le_refl _) dL_common_28
  · have h := h.2 c1
    refine lv_lload_n C0.1 C0.2.1 dL_common_6 rfl (lv_at hl 0 rfl) ?_
    refine lv_lconst (v := 0) C0.1 C0.2.1 dL_common_7 (by decide) ?_
    refine W.lcmp C0.1 C0.2.1 dL_common_8 ?_
    refine lv_if_ge (tgt := 17) C0.1 C0.2.1 dL_common_9 (by decide) (fun c5 => ?_) (fun c5 => ?_)
    · have h := h.1 c5
      refine lv_lload_n C0.1 C0.2.1 dL_common_17 rfl (lv_at hl 0 rfl) ?_
      refine lv_goto (tgt := 28) C0.1 C0.2.1 dL_common_18 (by decide) ?_
      exact e_J C0 Y hO hS h (Nat.le_refl _) (Nat.le_refl _) dL_common_28
    · have h := h.2 c5
      refine lv_lload_n C0.1 C0.2.1 dL_common_12 rfl (lv_at hl 0 rfl) ?_
      refine lv_lneg C0.1 C0.2.1 dL_common_13 ?_
      refine lv_goto (tgt := 28) C0.1 C0.2.1 dL_common_14 (by decide) ?_
      exact e_J C0 Y hO hS h (Nat.le_refl _) (Nat.le_refl _) dL_common_28
def wL_common : Nat → Hp → Int64 → Int64 → (Hp → Int64 → Prop) → Prop
  | 0 => fun _ _ _ _ => False
  | d + 1 => fun S x0 x2 Φ => wL_common_b0 (wL_common d) x0 x2 Φ S
set_option maxRecDepth 100000 in
theorem mL_common {l : Launch} {G : Gw} : ∀ (d : Nat) {S : Hp} {x0 : Int64} {x2 : Int64} {Φ : Hp → Int64 → Prop}, wL_common d S x0 x2 Φ → gM l yL_common cL_common 4 (some .long) (rm_L_common d) [.long x0, .long x2] G S (PJ Φ) := by
  intro d
  induction d with
  | zero => intro S x0 x2 Φ h; exact (h : False).elim
  | succ d9 ih =>
    intro S x0 x2 Φ h
    unfold gM
    refine Met.ofW (cc := cL_common) (maxL := 4) (ret := (some .long)) (by decide) rfl ?_
    intro p e s m args below meth c s₁ B hml hv
    obtain ⟨rfl, hw⟩ := hv
    obtain ⟨C0, Y, hO⟩ := mx_of B hml hw
    have hS : va_S (Ab G.b) s.heap s.heap [] := va_S.rf
    have hl := lv_entry ([.long x0, .long x2]) (n := 4) (Nat.le_of_ble_eq_true rfl)
    rw [lg_entry_eq]
    generalize (lg_sl ([.long x0, .long x2]) ++ List.replicate (4 - (lg_sl ([.long x0, .long x2])).length) Slot.unset).toArray = ls at hl ⊢
    have hl : lv_has ls 4 [(0, .long x0), (2, .long x2)] := hl
    exact bL_common_b0 C0 Y (fun h => ih h) S _ _ _ h hO hS hl
