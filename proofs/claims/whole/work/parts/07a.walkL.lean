theorem hd_L_shaft : nmOk yL_shaft 2 := by unfold nmOk; decide +kernel
def rm_L_shaft : Room := { frames := 7, cells := 1, slots := 6, locals := 110 }
def wL_shaft_b0 (x0 : Nat) (x1 : Nat) (Φ : Hp → Int32 → Prop) (S : Hp) : Prop := isA S x0 7 ∧ wX7_shaft S x0 (fun S1 r2 => isA S1 x1 22 ∧ vp_in 0 (S1.N x1) ∧ ∀ S6, S6 = S1.setAJ x1 ((0 : Int32).toNatClampNeg) r2.toInt64 → Φ S6 0) (fun S9 E9 => (E9 = "java/lang/IllegalStateException" ∧ Φ S9 1))
set_option maxHeartbeats 4000000 in
set_option maxRecDepth 100000 in
theorem bL_shaft_b0 {p : Program} {l : Launch} {e : Env} {s : State} {m : MethodId} {args : Array Value} {below : List Frame} {meth : Method} {c : Code} {G : Gw} {x0 : Nat} {x1 : Nat} {Φ : Hp → Int32 → Prop} (C0 : Mx p s m c cL_shaft 3 args yL_shaft.cls G) (Y : My meth (some .int)) (hl9 : l.stackTraces = false) (ht9 : c.exceptionTable.toList = tableOf [(0, 8, 11, 13)])  : ∀ (S : Hp) (H : Heap) (locs : List Loc) (ls : Array Slot) (cells slots : Nat), wL_shaft_b0 x0 x1 Φ S → Ok G S H → va_S (Ab G.b) s.heap H locs → lv_has ls 3 [(0, .ref x0), (1, .ref x1)] → cells + (1) ≤ 1 → slots + (6) ≤ 6 → W p l e rm_L_shaft s m args below meth c H locs cells slots (MQ below (gQ G (PI Φ)) args s rm_L_shaft.cells rm_L_shaft.slots (Ab G.b)) (F0 m 0 ls []) := by
  intro S H locs ls cells slots h hO hS hl hcc hss
  unfold wL_shaft_b0 at h
  refine lv_aload_n C0.1 C0.2.1 dL_shaft_0 rfl (lv_at hl 1 rfl) ?_
  refine lv_iconst (v := 0) C0.1 C0.2.1 dL_shaft_1 (by decide) ?_
  refine lv_aload_n C0.1 C0.2.1 dL_shaft_2 rfl (lv_at hl 0 rfl) ?_
  obtain ⟨i3, h⟩ := h
  refine y_V C0 hO hS (mX7_shaft hl9 h) i3 (by decide) rfl rfl tb_454 tb_455 tb_456 tb_74 tb_457 hd_X7_shaft rfl ⟨⟨by decide, by decide⟩, by show _ + 1 ≤ 1; omega, by show _ + 6 ≤ 6; omega⟩ hl.1 rfl (Nat.le_of_ble_eq_true rfl) dL_shaft_3 (fun E9 ce9 q9 S9 H locs h hO hS hcell hv9 hcl => ?_) (kI (fun r2 S1 H locs h hO hS => ?_))
  · rcases h with ⟨rfl, h⟩
    · refine k_catch C0 ht9 (tableOf []) ⟨0, 8, 11, 13⟩ (tableOf []) rfl (fun z hz => absurd hz (List.not_mem_nil)) rfl (by decide) tb_453 (by decide +kernel) hcell hv9 hcl ?_
      change W _ _ _ _ _ _ _ _ _ _ _ _ (_ + 1) (_ + 6) _ _
      refine lv_astore_n C0.1 C0.2.1 dL_shaft_11 rfl hl (by decide) rfl (fun ls hl => ?_)
      refine lv_iconst (v := 1) C0.1 C0.2.1 dL_shaft_12 (by decide) ?_
      exact e_I C0 Y hO hS h (by show _ ≤ 1; omega) (by show _ ≤ 6; omega) dL_shaft_13
  · change W _ _ _ _ _ _ _ _ _ _ _ _ (_ + 1) (_ + 6) _ _
    refine lv_i2l C0.1 C0.2.1 dL_shaft_6 rfl ?_
    obtain ⟨i4, h⟩ := h
    obtain ⟨e5, h⟩ := h
    refine r_last C0 hO hS i4 e5 dL_shaft_7 (fun H locs hO hS => ?_)
    have h := h _ rfl
    refine lv_goto (tgt := 14) C0.1 C0.2.1 dL_shaft_8 (by decide) ?_
    refine lv_iconst (v := 0) C0.1 C0.2.1 dL_shaft_14 (by decide) ?_
    exact e_I C0 Y hO hS h (by show _ ≤ 1; omega) (by show _ ≤ 6; omega) dL_shaft_15
def wL_shaft (S : Hp) (x0 : Nat) (x1 : Nat) (Φ : Hp → Int32 → Prop) : Prop := wL_shaft_b0 x0 x1 Φ S
set_option maxRecDepth 100000 in
theorem mL_shaft {l : Launch} {G : Gw} (hl9 : l.stackTraces = false) {S : Hp} {x0 : Nat} {x1 : Nat} {Φ : Hp → Int32 → Prop} (h : wL_shaft S x0 x1 Φ) : gW l yL_shaft cL_shaft 3 (some .int) [(0, 8, 11, 13)] rm_L_shaft [.ref x0, .ref x1] G S (PI Φ) := by
  unfold gW
  refine va_MetW (hh := [(0, 8, 11, 13)]) (cc := cL_shaft) (maxL := 3) (ret := (some .int)) (by decide) rfl ?_
  intro p e s m args below meth c s₁ B hml hv
  obtain ⟨rfl, hw⟩ := hv
  obtain ⟨C0, Y, hO, ht9⟩ := mx_ofW B hml hw
  have hS : va_S (Ab G.b) s.heap s.heap [] := va_S.rf
  have hl := lv_entry ([.ref x0, .ref x1]) (n := 3) (Nat.le_of_ble_eq_true rfl)
  rw [lg_entry_eq]
  generalize (lg_sl ([.ref x0, .ref x1]) ++ List.replicate (3 - (lg_sl ([.ref x0, .ref x1])).length) Slot.unset).toArray = ls at hl ⊢
  have hl : lv_has ls 3 [(0, .ref x0), (1, .ref x1)] := hl
  exact bL_shaft_b0 C0 Y hl9 ht9 S _ _ _ 0 0 h hO hS hl (by decide) (by decide)

theorem hd_L_link : nmOk yL_link 7 := by unfold nmOk; decide +kernel
def rm_L_link : Room := { frames := 10, cells := 94, slots := 2207, locals := 260 }
def wL_link_b0 (x0 : Nat) (x1 : Int32) (x2 : Int32) (x3 : Int32) (x4 : Int32) (x5 : Int32) (x6 : Nat) (Φ : Hp → Int32 → Prop) (S : Hp) : Prop := isA S x0 7 ∧ wX7_link S x0 x1 x2 x3 x4 x5 (fun S1 r2 => isA S1 x6 22 ∧ vp_in 0 (S1.N x6) ∧ ∀ S6, S6 = S1.setAJ x6 ((0 : Int32).toNatClampNeg) r2.toInt64 → Φ S6 0) (fun S9 E9 => (E9 = "java/lang/IndexOutOfBoundsException" ∧ Φ S9 1) ∨ (E9 = "java/lang/IllegalArgumentException" ∧ Φ S9 2) ∨ (E9 = "java/lang/UnsupportedOperationException" ∧ Φ S9 3) ∨ (E9 = "java/lang/IllegalStateException" ∧ Φ S9 4))
set_option maxHeartbeats 4000000 in
set_option maxRecDepth 100000 in
theorem bL_link_b0 {p : Program} {l : Launch} {e : Env} {s : State} {m : MethodId} {args : Array Value} {below : List Frame} {meth : Method} {c : Code} {G : Gw} {x0 : Nat} {x1 : Int32} {x2 : Int32} {x3 : Int32} {x4 : Int32} {x5 : Int32} {x6 : Nat} {Φ : Hp → Int32 → Prop} (C0 : Mx p s m c cL_link 8 args yL_link.cls G) (Y : My meth (some .int)) (hl9 : l.stackTraces = false) (ht9 : c.exceptionTable.toList = tableOf [(0, 16, 19, 19), (0, 16, 23, 21), (0, 16, 27, 23), (0, 16, 31, 13)])  : ∀ (S : Hp) (H : Heap) (locs : List Loc) (ls : Array Slot) (cells slots : Nat), wL_link_b0 x0 x1 x2 x3 x4 x5 x6 Φ S → Ok G S H → va_S (Ab G.b) s.heap H locs → lv_has ls 8 [(0, .ref x0), (1, .int x1), (2, .int x2), (3, .int x3), (4, .int x4), (5, .int x5), (6, .ref x6)] → cells + (94) ≤ 94 → slots + (2207) ≤ 2207 → W p l e rm_L_link s m args below meth c H locs cells slots (MQ below (gQ G (PI Φ)) args s rm_L_link.cells rm_L_link.slots (Ab G.b)) (F0 m 0 ls []) := by
  intro S H locs ls cells slots h hO hS hl hcc hss
  unfold wL_link_b0 at h
  refine lv_aload C0.1 C0.2.1 dL_link_0 (lv_at hl 6 rfl) ?_
  refine lv_iconst (v := 0) C0.1 C0.2.1 dL_link_2 (by decide) ?_
  refine lv_aload_n C0.1 C0.2.1 dL_link_3 rfl (lv_at hl 0 rfl) ?_
  refine lv_iload_n C0.1 C0.2.1 dL_link_4 rfl (lv_at hl 1 rfl) ?_
  refine lv_iload_n C0.1 C0.2.1 dL_link_5 rfl (lv_at hl 2 rfl) ?_
  refine lv_iload_n C0.1 C0.2.1 dL_link_6 rfl (lv_at hl 3 rfl) ?_
  refine lv_iload C0.1 C0.2.1 dL_link_7 (lv_at hl 4 rfl) ?_
  refine lv_iload C0.1 C0.2.1 dL_link_9 (lv_at hl 5 rfl) ?_
  obtain ⟨i3, h⟩ := h
  refine y_V C0 hO hS (mX7_link hl9 h) i3 (by decide) rfl rfl tb_559 tb_560 tb_561 tb_74 tb_562 hd_X7_link rfl ⟨⟨by decide, by decide⟩, by show _ + 94 ≤ 94; omega, by show _ + 2207 ≤ 2207; omega⟩ hl.1 rfl (Nat.le_of_ble_eq_true rfl) dL_link_11 (fun E9 ce9 q9 S9 H locs h hO hS hcell hv9 hcl => ?_) (kI (fun r2 S1 H locs h hO hS => ?_))
  · rcases h with ⟨rfl, h⟩ | ⟨rfl, h⟩ | ⟨rfl, h⟩ | ⟨rfl, h⟩
    · refine k_catch C0 ht9 (tableOf []) ⟨0, 16, 19, 19⟩ (tableOf [(0, 16, 23, 21), (0, 16, 27, 23), (0, 16, 31, 13)]) rfl (fun z hz => absurd hz (List.not_mem_nil)) rfl (by decide) tb_533 (by decide +kernel) hcell hv9 hcl ?_
      change W _ _ _ _ _ _ _ _ _ _ _ _ (_ + 94) (_ + 2207) _ _
      refine lv_astore C0.1 C0.2.1 dL_link_19 hl (by decide) rfl (fun ls hl => ?_)
      refine lv_iconst (v := 1) C0.1 C0.2.1 dL_link_21 (by decide) ?_
      exact e_I C0 Y hO hS h (by show _ ≤ 94; omega) (by show _ ≤ 2207; omega) dL_link_22
    · refine k_catch C0 ht9 (tableOf [(0, 16, 19, 19)]) ⟨0, 16, 23, 21⟩ (tableOf [(0, 16, 27, 23), (0, 16, 31, 13)]) rfl (List.forall_mem_cons.mpr ⟨no_of C0 (by decide) tb_533 (by decide +kernel), (fun z hz => absurd hz (List.not_mem_nil))⟩) rfl (by decide) tb_557 (by decide +kernel) hcell hv9 hcl ?_
      change W _ _ _ _ _ _ _ _ _ _ _ _ (_ + 94) (_ + 2207) _ _
      refine lv_astore C0.1 C0.2.1 dL_link_23 hl (by decide) rfl (fun ls hl => ?_)
      refine lv_iconst (v := 2) C0.1 C0.2.1 dL_link_25 (by decide) ?_
      exact e_I C0 Y hO hS h (by show _ ≤ 94; omega) (by show _ ≤ 2207; omega) dL_link_26
    · refine k_catch C0 ht9 (tableOf [(0, 16, 19, 19), (0, 16, 23, 21)]) ⟨0, 16, 27, 23⟩ (tableOf [(0, 16, 31, 13)]) rfl (List.forall_mem_cons.mpr ⟨no_of C0 (by decide) tb_533 (by decide +kernel), (List.forall_mem_cons.mpr ⟨no_of C0 (by decide) tb_557 (by decide +kernel), (fun z hz => absurd hz (List.not_mem_nil))⟩)⟩) rfl (by decide) tb_558 (by decide +kernel) hcell hv9 hcl ?_
      change W _ _ _ _ _ _ _ _ _ _ _ _ (_ + 94) (_ + 2207) _ _
      refine lv_astore C0.1 C0.2.1 dL_link_27 hl (by decide) rfl (fun ls hl => ?_)
      refine lv_iconst (v := 3) C0.1 C0.2.1 dL_link_29 (by decide) ?_
      exact e_I C0 Y hO hS h (by show _ ≤ 94; omega) (by show _ ≤ 2207; omega) dL_link_30
    · refine k_catch C0 ht9 (tableOf [(0, 16, 19, 19), (0, 16, 23, 21), (0, 16, 27, 23)]) ⟨0, 16, 31, 13⟩ (tableOf []) rfl (List.forall_mem_cons.mpr ⟨no_of C0 (by decide) tb_533 (by decide +kernel), (List.forall_mem_cons.mpr ⟨no_of C0 (by decide) tb_557 (by decide +kernel), (List.forall_mem_cons.mpr ⟨no_of C0 (by decide) tb_558 (by decide +kernel), (fun z hz => absurd hz (List.not_mem_nil))⟩)⟩)⟩) rfl (by decide) tb_453 (by decide +kernel) hcell hv9 hcl ?_
      change W _ _ _ _ _ _ _ _ _ _ _ _ (_ + 94) (_ + 2207) _ _
      refine lv_astore C0.1 C0.2.1 dL_link_31 hl (by decide) rfl (fun ls hl => ?_)
      refine lv_iconst (v := 4) C0.1 C0.2.1 dL_link_33 (by decide) ?_
      exact e_I C0 Y hO hS h (by show _ ≤ 94; omega) (by show _ ≤ 2207; omega) dL_link_34
  · change W _ _ _ _ _ _ _ _ _ _ _ _ (_ + 94) (_ + 2207) _ _
    refine lv_i2l C0.1 C0.2.1 dL_link_14 rfl ?_
    obtain ⟨i4, h⟩ := h
    obtain ⟨e5, h⟩ := h
    refine r_last C0 hO hS i4 e5 dL_link_15 (fun H locs hO hS => ?_)
    have h := h _ rfl
    refine lv_goto (tgt := 35) C0.1 C0.2.1 dL_link_16 (by decide) ?_
    refine lv_iconst (v := 0) C0.1 C0.2.1 dL_link_35 (by decide) ?_
    exact e_I C0 Y hO hS h (by show _ ≤ 94; omega) (by show _ ≤ 2207; omega) dL_link_36
def wL_link (S : Hp) (x0 : Nat) (x1 : Int32) (x2 : Int32) (x3 : Int32) (x4 : Int32) (x5 : Int32) (x6 : Nat) (Φ : Hp → Int32 → Prop) : Prop := wL_link_b0 x0 x1 x2 x3 x4 x5 x6 Φ S
set_option maxRecDepth 100000 in
theorem mL_link {l : Launch} {G : Gw} (hl9 : l.stackTraces = false) {S : Hp} {x0 : Nat} {x1 : Int32} {x2 : Int32} {x3 : Int32} {x4 : Int32} {x5 : Int32} {x6 : Nat} {Φ : Hp → Int32 → Prop} (h : wL_link S x0 x1 x2 x3 x4 x5 x6 Φ) : gW l yL_link cL_link 8 (some .int) [(0, 16, 19, 19), (0, 16, 23, 21), (0, 16, 27, 23), (0, 16, 31, 13)] rm_L_link [.ref x0, .int x1, .int x2, .int x3, .int x4, .int x5, .ref x6] G S (PI Φ) := by
  unfold gW
  refine va_MetW (hh := [(0, 16, 19, 19), (0, 16, 23, 21), (0, 16, 27, 23), (0, 16, 31, 13)]) (cc := cL_link) (maxL := 8) (ret := (some .int)) (by decide) rfl ?_
  intro p e s m args below meth c s₁ B hml hv
  obtain ⟨rfl, hw⟩ := hv
  obtain ⟨C0, Y, hO, ht9⟩ := mx_ofW B hml hw
  have hS : va_S (Ab G.b) s.heap s.heap [] := va_S.rf
  have hl := lv_entry ([.ref x0, .int x1, .int x2, .int x3, .int x4, .int x5, .ref x6]) (n := 8) (Nat.le_of_ble_eq_true rfl)
  rw [lg_entry_eq]
  generalize (lg_sl ([.ref x0, .int x1, .int x2, .int x3, .int x4, .int x5, .ref x6]) ++ List.replicate (8 - (lg_sl ([.ref x0, .int x1, .int x2, .int x3, .int x4, .int x5, .ref x6])).length) Slot.unset).toArray = ls at hl ⊢
  have hl : lv_has ls 8 [(0, .ref x0), (1, .int x1), (2, .int x2), (3, .int x3), (4, .int x4), (5, .int x5), (6, .ref x6)] := hl
  exact bL_link_b0 C0 Y hl9 ht9 S _ _ _ 0 0 h hO hS hl (by decide) (by decide)

theorem hd_L_planets : nmOk yL_planets 7 := by unfold nmOk; decide +kernel
def rm_L_planets : Room := { frames := 10, cells := 97, slots := 2225, locals := 260 }
def wL_planets_b0 (x0 : Nat) (x1 : Int32) (x2 : Int32) (x3 : Int32) (x4 : Int32) (x5 : Int32) (x6 : Nat) (Φ : Hp → Int32 → Prop) (S : Hp) : Prop := isA S x0 7 ∧ wX7_planets S x0 x1 x2 x3 x4 x5 (fun S1 r2 => isA S1 x6 22 ∧ vp_in 0 (S1.N x6) ∧ ∀ S6, S6 = S1.setAJ x6 ((0 : Int32).toNatClampNeg) r2.toInt64 → Φ S6 0) (fun S9 E9 => (E9 = "java/lang/IndexOutOfBoundsException" ∧ Φ S9 1) ∨ (E9 = "java/lang/IllegalArgumentException" ∧ Φ S9 2) ∨ (E9 = "java/lang/UnsupportedOperationException" ∧ Φ S9 3) ∨ (E9 = "java/lang/IllegalStateException" ∧ Φ S9 4))
set_option maxHeartbeats 4000000 in
set_option maxRecDepth 100000 in
theorem bL_planets_b0 {p : Program} {l : Launch} {e : Env} {s : State} {m : MethodId} {args : Array Value} {below : List Frame} {meth : Method} {c : Code} {G : Gw} {x0 : Nat} {x1 : Int32} {x2 : Int32} {x3 : Int32} {x4 : Int32} {x5 : Int32} {x6 : Nat} {Φ : Hp → Int32 → Prop} (C0 : Mx p s m c cL_planets 8 args yL_planets.cls G) (Y : My meth (some .int)) (hl9 : l.stackTraces = false) (ht9 : c.exceptionTable.toList = tableOf [(0, 16, 19, 19), (0, 16, 23, 21), (0, 16, 27, 23), (0, 16, 31, 13)])  : ∀ (S : Hp) (H : Heap) (locs : List Loc) (ls : Array Slot) (cells slots : Nat), wL_planets_b0 x0 x1 x2 x3 x4 x5 x6 Φ S → Ok G S H → va_S (Ab G.b) s.heap H locs → lv_has ls 8 [(0, .ref x0), (1, .int x1), (2, .int x2), (3, .int x3), (4, .int x4), (5, .int x5), (6, .ref x6)] → cells + (97) ≤ 97 → slots + (2225) ≤ 2225 → W p l e rm_L_planets s m args below meth c H locs cells slots (MQ below (gQ G (PI Φ)) args s rm_L_planets.cells rm_L_planets.slots (Ab G.b)) (F0 m 0 ls []) := by
  intro S H locs ls cells slots h hO hS hl hcc hss
  unfold wL_planets_b0 at h
  refine lv_aload C0.1 C0.2.1 dL_planets_0 (lv_at hl 6 rfl) ?_
  refine lv_iconst (v := 0) C0.1 C0.2.1 dL_planets_2 (by decide) ?_
  refine lv_aload_n C0.1 C0.2.1 dL_planets_3 rfl (lv_at hl 0 rfl) ?_
  refine lv_iload_n C0.1 C0.2.1 dL_planets_4 rfl (lv_at hl 1 rfl) ?_
  refine lv_iload_n C0.1 C0.2.1 dL_planets_5 rfl (lv_at hl 2 rfl) ?_
  refine lv_iload_n C0.1 C0.2.1 dL_planets_6 rfl (lv_at hl 3 rfl) ?_
  refine lv_iload C0.1 C0.2.1 dL_planets_7 (lv_at hl 4 rfl) ?_
  refine lv_iload C0.1 C0.2.1 dL_planets_9 (lv_at hl 5 rfl) ?_
  obtain ⟨i3, h⟩ := h
  refine y_V C0 hO hS (mX7_planets hl9 h) i3 (by decide) rfl rfl tb_754 tb_755 tb_756 tb_74 tb_757 hd_X7_planets rfl ⟨⟨by decide, by decide⟩, by show _ + 97 ≤ 97; omega, by show _ + 2225 ≤ 2225; omega⟩ hl.1 rfl (Nat.le_of_ble_eq_true rfl) dL_planets_11 (fun E9 ce9 q9 S9 H locs h hO hS hcell hv9 hcl => ?_) (kI (fun r2 S1 H locs h hO hS => ?_))
  · rcases h with ⟨rfl, h⟩ | ⟨rfl, h⟩ | ⟨rfl, h⟩ | ⟨rfl, h⟩
    · refine k_catch C0 ht9 (tableOf []) ⟨0, 16, 19, 19⟩ (tableOf [(0, 16, 23, 21), (0, 16, 27, 23), (0, 16, 31, 13)]) rfl (fun z hz => absurd hz (List.not_mem_nil)) rfl (by decide) tb_533 (by decide +kernel) hcell hv9 hcl ?_
      change W _ _ _ _ _ _ _ _ _ _ _ _ (_ + 97) (_ + 2225) _ _
      refine lv_astore C0.1 C0.2.1 dL_planets_19 hl (by decide) rfl (fun ls hl => ?_)
      refine lv_iconst (v := 1) C0.1 C0.2.1 dL_planets_21 (by decide) ?_
      exact e_I C0 Y hO hS h (by show _ ≤ 97; omega) (by show _ ≤ 2225; omega) dL_planets_22
    · refine k_catch C0 ht9 (tableOf [(0, 16, 19, 19)]) ⟨0, 16, 23, 21⟩ (tableOf [(0, 16, 27, 23), (0, 16, 31, 13)]) rfl (List.forall_mem_cons.mpr ⟨no_of C0 (by decide) tb_533 (by decide +kernel), (fun z hz => absurd hz (List.not_mem_nil))⟩) rfl (by decide) tb_557 (by decide +kernel) hcell hv9 hcl ?_
      change W _ _ _ _ _ _ _ _ _ _ _ _ (_ + 97) (_ + 2225) _ _
      refine lv_astore C0.1 C0.2.1 dL_planets_23 hl (by decide) rfl (fun ls hl => ?_)
      refine lv_iconst (v := 2) C0.1 C0.2.1 dL_planets_25 (by decide) ?_
      exact e_I C0 Y hO hS h (by show _ ≤ 97; omega) (by show _ ≤ 2225; omega) dL_planets_26
    · refine k_catch C0 ht9 (tableOf [(0, 16, 19, 19), (0, 16, 23, 21)]) ⟨0, 16, 27, 23⟩ (tableOf [(0, 16, 31, 13)]) rfl (List.forall_mem_cons.mpr ⟨no_of C0 (by decide) tb_533 (by decide +kernel), (List.forall_mem_cons.mpr ⟨no_of C0 (by decide) tb_557 (by decide +kernel), (fun z hz => absurd hz (List.not_mem_nil))⟩)⟩) rfl (by decide) tb_558 (by decide +kernel) hcell hv9 hcl ?_
      change W _ _ _ _ _ _ _ _ _ _ _ _ (_ + 97) (_ + 2225) _ _
      refine lv_astore C0.1 C0.2.1 dL_planets_27 hl (by decide) rfl (fun ls hl => ?_)
      refine lv_iconst (v := 3) C0.1 C0.2.1 dL_planets_29 (by decide) ?_
      exact e_I C0 Y hO hS h (by show _ ≤ 97; omega) (by show _ ≤ 2225; omega) dL_planets_30
    · refine k_catch C0 ht9 (tableOf [(0, 16, 19, 19), (0, 16, 23, 21), (0, 16, 27, 23)]) ⟨0, 16, 31, 13⟩ (tableOf []) rfl (List.forall_mem_cons.mpr ⟨no_of C0 (by decide) tb_533 (by decide +kernel), (List.forall_mem_cons.mpr ⟨no_of C0 (by decide) tb_557 (by decide +kernel), (List.forall_mem_cons.mpr ⟨no_of C0 (by decide) tb_558 (by decide +kernel), (fun z hz => absurd hz (List.not_mem_nil))⟩)⟩)⟩) rfl (by decide) tb_453 (by decide +kernel) hcell hv9 hcl ?_
      change W _ _ _ _ _ _ _ _ _ _ _ _ (_ + 97) (_ + 2225) _ _
      refine lv_astore C0.1 C0.2.1 dL_planets_31 hl (by decide) rfl (fun ls hl => ?_)
      refine lv_iconst (v := 4) C0.1 C0.2.1 dL_planets_33 (by decide) ?_
      exact e_I C0 Y hO hS h (by show _ ≤ 97; omega) (by show _ ≤ 2225; omega) dL_planets_34
  · change W _ _ _ _ _ _ _ _ _ _ _ _ (_ + 97) (_ + 2225) _ _
    refine lv_i2l C0.1 C0.2.1 dL_planets_14 rfl ?_
    obtain ⟨i4, h⟩ := h
    obtain ⟨e5, h⟩ := h
    refine r_last C0 hO hS i4 e5 dL_planets_15 (fun H locs hO hS => ?_)
    have h := h _ rfl
    refine lv_goto (tgt := 35) C0.1 C0.2.1 dL_planets_16 (by decide) ?_
    refine lv_iconst (v := 0) C0.1 C0.2.1 dL_planets_35 (by decide) ?_
    exact e_I C0 Y hO hS h (by show _ ≤ 97; omega) (by show _ ≤ 2225; omega) dL_planets_36
def wL_planets (S : Hp) (x0 : Nat) (x1 : Int32) (x2 : Int32) (x3 : Int32) (x4 : Int32) (x5 : Int32) (x6 : Nat) (Φ : Hp → Int32 → Prop) : Prop := wL_planets_b0 x0 x1 x2 x3 x4 x5 x6 Φ S
set_option maxRecDepth 100000 in
theorem mL_planets {l : Launch} {G : Gw} (hl9 : l.stackTraces = false) {S : Hp} {x0 : Nat} {x1 : Int32} {x2 : Int32} {x3 : Int32} {x4 : Int32} {x5 : Int32} {x6 : Nat} {Φ : Hp → Int32 → Prop} (h : wL_planets S x0 x1 x2 x3 x4 x5 x6 Φ) : gW l yL_planets cL_planets 8 (some .int) [(0, 16, 19, 19), (0, 16, 23, 21), (0, 16, 27, 23), (0, 16, 31, 13)] rm_L_planets [.ref x0, .int x1, .int x2, .int x3, .int x4, .int x5, .ref x6] G S (PI Φ) := by
  unfold gW
  refine va_MetW (hh := [(0, 16, 19, 19), (0, 16, 23, 21), (0, 16, 27, 23), (0, 16, 31, 13)]) (cc := cL_planets) (maxL := 8) (ret := (some .int)) (by decide) rfl ?_
  intro p e s m args below meth c s₁ B hml hv
  obtain ⟨rfl, hw⟩ := hv
  obtain ⟨C0, Y, hO, ht9⟩ := mx_ofW B hml hw
  have hS : va_S (Ab G.b) s.heap s.heap [] := va_S.rf
  have hl := lv_entry ([.ref x0, .int x1, .int x2, .int x3, .int x4, .int x5, .ref x6]) (n := 8) (Nat.le_of_ble_eq_true rfl)
  rw [lg_entry_eq]
  generalize (lg_sl ([.ref x0, .int x1, .int x2, .int x3, .int x4, .int x5, .ref x6]) ++ List.replicate (8 - (lg_sl ([.ref x0, .int x1, .int x2, .int x3, .int x4, .int x5, .ref x6])).length) Slot.unset).toArray = ls at hl ⊢
  have hl : lv_has ls 8 [(0, .ref x0), (1, .int x1), (2, .int x2), (3, .int x3), (4, .int x4), (5, .int x5), (6, .ref x6)] := hl
  exact bL_planets_b0 C0 Y hl9 ht9 S _ _ _ 0 0 h hO hS hl (by decide) (by decide)

theorem hd_L_engage : nmOk yL_engage 4 := by unfold nmOk; decide +kernel
def rm_L_engage : Room := { frames := 9, cells := 2, slots := 12, locals := 156 }
def wL_engage_b0 (x0 : Nat) (x1 : Int32) (x2 : Int32) (x3 : Nat) (Φ : Hp → Int32 → Prop) (S : Hp) : Prop := isA S x0 7 ∧ wX7_engage S x0 x1 x2 (fun S1 r2 => ((r2 = 0 → isA S1 x3 22 ∧ vp_in 0 (S1.N x3) ∧ ∀ S7, S7 = S1.setAJ x3 ((0 : Int32).toNatClampNeg) 0 → Φ S7 0) ∧ (¬ (r2 = 0) → isA S1 x3 22 ∧ vp_in 0 (S1.N x3) ∧ ∀ S10, S10 = S1.setAJ x3 ((0 : Int32).toNatClampNeg) 1 → Φ S10 0))) (fun S9 E9 => (E9 = "java/lang/IndexOutOfBoundsException" ∧ Φ S9 1) ∨ (E9 = "java/lang/UnsupportedOperationException" ∧ Φ S9 2))
set_option maxHeartbeats 4000000 in
set_option maxRecDepth 100000 in
theorem bL_engage_b0 {p : Program} {l : Launch} {e : Env} {s : State} {m : MethodId} {args : Array Value} {below : List Frame} {meth : Method} {c : Code} {G : Gw} {x0 : Nat} {x1 : Int32} {x2 : Int32} {x3 : Nat} {Φ : Hp → Int32 → Prop} (C0 : Mx p s m c cL_engage 5 args yL_engage.cls G) (Y : My meth (some .int)) (hl9 : l.stackTraces = false) (ht9 : c.exceptionTable.toList = tableOf [(0, 17, 20, 19), (0, 17, 24, 23)])  : ∀ (S : Hp) (H : Heap) (locs : List Loc) (ls : Array Slot) (cells slots : Nat), wL_engage_b0 x0 x1 x2 x3 Φ S → Ok G S H → va_S (Ab G.b) s.heap H locs → lv_has ls 5 [(0, .ref x0), (1, .int x1), (2, .int x2), (3, .ref x3)] → cells + (2) ≤ 2 → slots + (12) ≤ 12 → W p l e rm_L_engage s m args below meth c H locs cells slots (MQ below (gQ G (PI Φ)) args s rm_L_engage.cells rm_L_engage.slots (Ab G.b)) (F0 m 0 ls []) := by
  intro S H locs ls cells slots h hO hS hl hcc hss
  unfold wL_engage_b0 at h
  refine lv_aload_n C0.1 C0.2.1 dL_engage_0 rfl (lv_at hl 3 rfl) ?_
  refine lv_iconst (v := 0) C0.1 C0.2.1 dL_engage_1 (by decide) ?_
  refine lv_aload_n C0.1 C0.2.1 dL_engage_2 rfl (lv_at hl 0 rfl) ?_
  refine lv_iload_n C0.1 C0.2.1 dL_engage_3 rfl (lv_at hl 1 rfl) ?_
  refine lv_iload_n C0.1 C0.2.1 dL_engage_4 rfl (lv_at hl 2 rfl) ?_
  obtain ⟨i3, h⟩ := h
  refine y_V C0 hO hS (mX7_engage hl9 h) i3 (by decide) rfl rfl tb_766 tb_767 tb_768 tb_74 tb_769 hd_X7_engage rfl ⟨⟨by decide, by decide⟩, by show _ + 2 ≤ 2; omega, by show _ + 12 ≤ 12; omega⟩ hl.1 rfl (Nat.le_of_ble_eq_true rfl) dL_engage_5 (fun E9 ce9 q9 S9 H locs h hO hS hcell hv9 hcl => ?_) (kI (fun r2 S1 H locs h hO hS => ?_))
  · rcases h with ⟨rfl, h⟩ | ⟨rfl, h⟩
    · refine k_catch C0 ht9 (tableOf []) ⟨0, 17, 20, 19⟩ (tableOf [(0, 17, 24, 23)]) rfl (fun z hz => absurd hz (List.not_mem_nil)) rfl (by decide) tb_533 (by decide +kernel) hcell hv9 hcl ?_
      change W _ _ _ _ _ _ _ _ _ _ _ _ (_ + 2) (_ + 12) _ _
      refine lv_astore C0.1 C0.2.1 dL_engage_20 hl (by decide) rfl (fun ls hl => ?_)
      refine lv_iconst (v := 1) C0.1 C0.2.1 dL_engage_22 (by decide) ?_
      exact e_I C0 Y hO hS h (by show _ ≤ 2; omega) (by show _ ≤ 12; omega) dL_engage_23
    · refine k_catch C0 ht9 (tableOf [(0, 17, 20, 19)]) ⟨0, 17, 24, 23⟩ (tableOf []) rfl (List.forall_mem_cons.mpr ⟨no_of C0 (by decide) tb_533 (by decide +kernel), (fun z hz => absurd hz (List.not_mem_nil))⟩) rfl (by decide) tb_558 (by decide +kernel) hcell hv9 hcl ?_
      change W _ _ _ _ _ _ _ _ _ _ _ _ (_ + 2) (_ + 12) _ _
      refine lv_astore C0.1 C0.2.1 dL_engage_24 hl (by decide) rfl (fun ls hl => ?_)
      refine lv_iconst (v := 2) C0.1 C0.2.1 dL_engage_26 (by decide) ?_
      exact e_I C0 Y hO hS h (by show _ ≤ 2; omega) (by show _ ≤ 12; omega) dL_engage_27
  · change W _ _ _ _ _ _ _ _ _ _ _ _ (_ + 2) (_ + 12) _ _
    refine lv_if_eq (tgt := 15) C0.1 C0.2.1 dL_engage_8 (by decide) (fun c4 => ?_) (fun c4 => ?_)
    · have h := h.1 c4
      refine lv_lconst (v := 0) C0.1 C0.2.1 dL_engage_15 (by decide) ?_
      obtain ⟨i5, h⟩ := h
      obtain ⟨e6, h⟩ := h
      refine r_last C0 hO hS i5 e6 dL_engage_16 (fun H locs hO hS => ?_)
      have h := h _ rfl
      refine lv_goto (tgt := 28) C0.1 C0.2.1 dL_engage_17 (by decide) ?_
      refine lv_iconst (v := 0) C0.1 C0.2.1 dL_engage_28 (by decide) ?_
      exact e_I C0 Y hO hS h (by show _ ≤ 2; omega) (by show _ ≤ 12; omega) dL_engage_29
    · have h := h.2 c4
      refine lv_lconst (v := 1) C0.1 C0.2.1 dL_engage_11 (by decide) ?_
      refine lv_goto (tgt := 16) C0.1 C0.2.1 dL_engage_12 (by decide) ?_
      obtain ⟨i8, h⟩ := h
      obtain ⟨e9, h⟩ := h
      refine r_last C0 hO hS i8 e9 dL_engage_16 (fun H locs hO hS => ?_)
      have h := h _ rfl
      refine lv_goto (tgt := 28) C0.1 C0.2.1 dL_engage_17 (by decide) ?_
      refine lv_iconst (v := 0) C0.1 C0.2.1 dL_engage_28 (by decide) ?_
      exact e_I C0 Y hO hS h (by show _ ≤ 2; omega) (by show _ ≤ 12; omega) dL_engage_29
def wL_engage (S : Hp) (x0 : Nat) (x1 : Int32) (x2 : Int32) (x3 : Nat) (Φ : Hp → Int32 → Prop) : Prop := wL_engage_b0 x0 x1 x2 x3 Φ S
set_option maxRecDepth 100000 in
theorem mL_engage {l : Launch} {G : Gw} (hl9 : l.stackTraces = false) {S : Hp} {x0 : Nat} {x1 : Int32} {x2 : Int32} {x3 : Nat} {Φ : Hp → Int32 → Prop} (h : wL_engage S x0 x1 x2 x3 Φ) : gW l yL_engage cL_engage 5 (some .int) [(0, 17, 20, 19), (0, 17, 24, 23)] rm_L_engage [.ref x0, .int x1, .int x2, .ref x3] G S (PI Φ) := by
  unfold gW
  refine va_MetW (hh := [(0, 17, 20, 19), (0, 17, 24, 23)]) (cc := cL_engage) (maxL := 5) (ret := (some .int)) (by decide) rfl ?_
  intro p e s m args below meth c s₁ B hml hv
  obtain ⟨rfl, hw⟩ := hv
  obtain ⟨C0, Y, hO, ht9⟩ := mx_ofW B hml hw
  have hS : va_S (Ab G.b) s.heap s.heap [] := va_S.rf
  have hl := lv_entry ([.ref x0, .int x1, .int x2, .ref x3]) (n := 5) (Nat.le_of_ble_eq_true rfl)
  rw [lg_entry_eq]
  generalize (lg_sl ([.ref x0, .int x1, .int x2, .ref x3]) ++ List.replicate (5 - (lg_sl ([.ref x0, .int x1, .int x2, .ref x3])).length) Slot.unset).toArray = ls at hl ⊢
  have hl : lv_has ls 5 [(0, .ref x0), (1, .int x1), (2, .int x2), (3, .ref x3)] := hl
  exact bL_engage_b0 C0 Y hl9 ht9 S _ _ _ 0 0 h hO hS hl (by decide) (by decide)

theorem hd_L_life : nmOk yL_life 4 := by unfold nmOk; decide +kernel
def rm_L_life : Room := { frames := 9, cells := 2, slots := 12, locals := 156 }
def wL_life_b0 (x0 : Nat) (x1 : Int32) (x2 : Int32) (x3 : Nat) (Φ : Hp → Int32 → Prop) (S : Hp) : Prop := isA S x0 7 ∧ wX7_life S x0 x1 x2 (fun S1 r2 => isA S1 x3 22 ∧ vp_in 0 (S1.N x3) ∧ ∀ S6, S6 = S1.setAJ x3 ((0 : Int32).toNatClampNeg) r2.toInt64 → Φ S6 0) (fun S9 E9 => (E9 = "java/lang/IndexOutOfBoundsException" ∧ Φ S9 1) ∨ (E9 = "java/lang/IllegalArgumentException" ∧ Φ S9 2))
set_option maxHeartbeats 4000000 in
set_option maxRecDepth 100000 in
theorem bL_life_b0 {p : Program} {l : Launch} {e : Env} {s : State} {m : MethodId} {args : Array Value} {below : List Frame} {meth : Method} {c : Code} {G : Gw} {x0 : Nat} {x1 : Int32} {x2 : Int32} {x3 : Nat} {Φ : Hp → Int32 → Prop} (C0 : Mx p s m c cL_life 5 args yL_life.cls G) (Y : My meth (some .int)) (hl9 : l.stackTraces = false) (ht9 : c.exceptionTable.toList = tableOf [(0, 10, 13, 19), (0, 10, 17, 21)])  : ∀ (S : Hp) (H : Heap) (locs : List Loc) (ls : Array Slot) (cells slots : Nat), wL_life_b0 x0 x1 x2 x3 Φ S → Ok G S H → va_S (Ab G.b) s.heap H locs → lv_has ls 5 [(0, .ref x0), (1, .int x1), (2, .int x2), (3, .ref x3)] → cells + (2) ≤ 2 → slots + (12) ≤ 12 → W p l e rm_L_life s m args below meth c H locs cells slots (MQ below (gQ G (PI Φ)) args s rm_L_life.cells rm_L_life.slots (Ab G.b)) (F0 m 0 ls []) := by
  intro S H locs ls cells slots h hO hS hl hcc hss
  unfold wL_life_b0 at h
  refine lv_aload_n C0.1 C0.2.1 dL_life_0 rfl (lv_at hl 3 rfl) ?_
  refine lv_iconst (v := 0) C0.1 C0.2.1 dL_life_1 (by decide) ?_
  refine lv_aload_n C0.1 C0.2.1 dL_life_2 rfl (lv_at hl 0 rfl) ?_
  refine lv_iload_n C0.1 C0.2.1 dL_life_3 rfl (lv_at hl 1 rfl) ?_
  refine lv_iload_n C0.1 C0.2.1 dL_life_4 rfl (lv_at hl 2 rfl) ?_
  obtain ⟨i3, h⟩ := h
  refine y_V C0 hO hS (mX7_life hl9 h) i3 (by decide) rfl rfl tb_788 tb_789 tb_790 tb_74 tb_791 hd_X7_life rfl ⟨⟨by decide, by decide⟩, by show _ + 2 ≤ 2; omega, by show _ + 12 ≤ 12; omega⟩ hl.1 rfl (Nat.le_of_ble_eq_true rfl) dL_life_5 (fun E9 ce9 q9 S9 H locs h hO hS hcell hv9 hcl => ?_) (kI (fun r2 S1 H locs h hO hS => ?_))
  · rcases h with ⟨rfl, h⟩ | ⟨rfl, h⟩
    · refine k_catch C0 ht9 (tableOf []) ⟨0, 10, 13, 19⟩ (tableOf [(0, 10, 17, 21)]) rfl (fun z hz => absurd hz (List.not_mem_nil)) rfl (by decide) tb_533 (by decide +kernel) hcell hv9 hcl ?_
      change W _ _ _ _ _ _ _ _ _ _ _ _ (_ + 2) (_ + 12) _ _
      refine lv_astore C0.1 C0.2.1 dL_life_13 hl (by decide) rfl (fun ls hl => ?_)
      refine lv_iconst (v := 1) C0.1 C0.2.1 dL_life_15 (by decide) ?_
      exact e_I C0 Y hO hS h (by show _ ≤ 2; omega) (by show _ ≤ 12; omega) dL_life_16
    · refine k_catch C0 ht9 (tableOf [(0, 10, 13, 19)]) ⟨0, 10, 17, 21⟩ (tableOf []) rfl (List.forall_mem_cons.mpr ⟨no_of C0 (by decide) tb_533 (by decide +kernel), (fun z hz => absurd hz (List.not_mem_nil))⟩) rfl (by decide) tb_557 (by decide +kernel) hcell hv9 hcl ?_
      change W _ _ _ _ _ _ _ _ _ _ _ _ (_ + 2) (_ + 12) _ _
      refine lv_astore C0.1 C0.2.1 dL_life_17 hl (by decide) rfl (fun ls hl => ?_)
      refine lv_iconst (v := 2) C0.1 C0.2.1 dL_life_19 (by decide) ?_
      exact e_I C0 Y hO hS h (by show _ ≤ 2; omega) (by show _ ≤ 12; omega) dL_life_20
  · change W _ _ _ _ _ _ _ _ _ _ _ _ (_ + 2) (_ + 12) _ _
    refine lv_i2l C0.1 C0.2.1 dL_life_8 rfl ?_
    obtain ⟨i4, h⟩ := h
    obtain ⟨e5, h⟩ := h
    refine r_last C0 hO hS i4 e5 dL_life_9 (fun H locs hO hS => ?_)
    have h := h _ rfl
    refine lv_goto (tgt := 21) C0.1 C0.2.1 dL_life_10 (by decide) ?_
    refine lv_iconst (v := 0) C0.1 C0.2.1 dL_life_21 (by decide) ?_
    exact e_I C0 Y hO hS h (by show _ ≤ 2; omega) (by show _ ≤ 12; omega) dL_life_22
def wL_life (S : Hp) (x0 : Nat) (x1 : Int32) (x2 : Int32) (x3 : Nat) (Φ : Hp → Int32 → Prop) : Prop := wL_life_b0 x0 x1 x2 x3 Φ S
set_option maxRecDepth 100000 in
theorem mL_life {l : Launch} {G : Gw} (hl9 : l.stackTraces = false) {S : Hp} {x0 : Nat} {x1 : Int32} {x2 : Int32} {x3 : Nat} {Φ : Hp → Int32 → Prop} (h : wL_life S x0 x1 x2 x3 Φ) : gW l yL_life cL_life 5 (some .int) [(0, 10, 13, 19), (0, 10, 17, 21)] rm_L_life [.ref x0, .int x1, .int x2, .ref x3] G S (PI Φ) := by
  unfold gW
  refine va_MetW (hh := [(0, 10, 13, 19), (0, 10, 17, 21)]) (cc := cL_life) (maxL := 5) (ret := (some .int)) (by decide) rfl ?_
  intro p e s m args below meth c s₁ B hml hv
  obtain ⟨rfl, hw⟩ := hv
  obtain ⟨C0, Y, hO, ht9⟩ := mx_ofW B hml hw
  have hS : va_S (Ab G.b) s.heap s.heap [] := va_S.rf
  have hl := lv_entry ([.ref x0, .int x1, .int x2, .ref x3]) (n := 5) (Nat.le_of_ble_eq_true rfl)
  rw [lg_entry_eq]
  generalize (lg_sl ([.ref x0, .int x1, .int x2, .ref x3]) ++ List.replicate (5 - (lg_sl ([.ref x0, .int x1, .int x2, .ref x3])).length) Slot.unset).toArray = ls at hl ⊢
  have hl : lv_has ls 5 [(0, .ref x0), (1, .int x1), (2, .int x2), (3, .ref x3)] := hl
  exact bL_life_b0 C0 Y hl9 ht9 S _ _ _ 0 0 h hO hS hl (by decide) (by decide)

theorem hd_L_slack : nmOk yL_slack 4 := by unfold nmOk; decide +kernel
def rm_L_slack : Room := { frames := 9, cells := 2, slots := 12, locals := 156 }
def wL_slack_b0 (x0 : Nat) (x1 : Int32) (x2 : Int32) (x3 : Nat) (Φ : Hp → Int32 → Prop) (S : Hp) : Prop := isA S x0 7 ∧ wX7_slack S x0 x1 x2 (fun S1 r2 => isA S1 x3 22 ∧ vp_in 0 (S1.N x3) ∧ ∀ S6, S6 = S1.setAJ x3 ((0 : Int32).toNatClampNeg) r2.toInt64 → Φ S6 0) (fun S9 E9 => (E9 = "java/lang/IndexOutOfBoundsException" ∧ Φ S9 1) ∨ (E9 = "java/lang/IllegalArgumentException" ∧ Φ S9 2))
set_option maxHeartbeats 4000000 in
set_option maxRecDepth 100000 in
theorem bL_slack_b0 {p : Program} {l : Launch} {e : Env} {s : State} {m : MethodId} {args : Array Value} {below : List Frame} {meth : Method} {c : Code} {G : Gw} {x0 : Nat} {x1 : Int32} {x2 : Int32} {x3 : Nat} {Φ : Hp → Int32 → Prop} (C0 : Mx p s m c cL_slack 5 args yL_slack.cls G) (Y : My meth (some .int)) (hl9 : l.stackTraces = false) (ht9 : c.exceptionTable.toList = tableOf [(0, 10, 13, 19), (0, 10, 17, 21)])  : ∀ (S : Hp) (H : Heap) (locs : List Loc) (ls : Array Slot) (cells slots : Nat), wL_slack_b0 x0 x1 x2 x3 Φ S → Ok G S H → va_S (Ab G.b) s.heap H locs → lv_has ls 5 [(0, .ref x0), (1, .int x1), (2, .int x2), (3, .ref x3)] → cells + (2) ≤ 2 → slots + (12) ≤ 12 → W p l e rm_L_slack s m args below meth c H locs cells slots (MQ below (gQ G (PI Φ)) args s rm_L_slack.cells rm_L_slack.slots (Ab G.b)) (F0 m 0 ls []) := by
  intro S H locs ls cells slots h hO hS hl hcc hss
  unfold wL_slack_b0 at h
  refine lv_aload_n C0.1 C0.2.1 dL_slack_0 rfl (lv_at hl 3 rfl) ?_
  refine lv_iconst (v := 0) C0.1 C0.2.1 dL_slack_1 (by decide) ?_
  refine lv_aload_n C0.1 C0.2.1 dL_slack_2 rfl (lv_at hl 0 rfl) ?_
  refine lv_iload_n C0.1 C0.2.1 dL_slack_3 rfl (lv_at hl 1 rfl) ?_
  refine lv_iload_n C0.1 C0.2.1 dL_slack_4 rfl (lv_at hl 2 rfl) ?_
  obtain ⟨i3, h⟩ := h
  refine y_V C0 hO hS (mX7_slack hl9 h) i3 (by decide) rfl rfl tb_795 tb_796 tb_797 tb_74 tb_798 hd_X7_slack rfl ⟨⟨by decide, by decide⟩, by show _ + 2 ≤ 2; omega, by show _ + 12 ≤ 12; omega⟩ hl.1 rfl (Nat.le_of_ble_eq_true rfl) dL_slack_5 (fun E9 ce9 q9 S9 H locs h hO hS hcell hv9 hcl => ?_) (kI (fun r2 S1 H locs h hO hS => ?_))
  · rcases h with ⟨rfl, h⟩ | ⟨rfl, h⟩
    · refine k_catch C0 ht9 (tableOf []) ⟨0, 10, 13, 19⟩ (tableOf [(0, 10, 17, 21)]) rfl (fun z hz => absurd hz (List.not_mem_nil)) rfl (by decide) tb_533 (by decide +kernel) hcell hv9 hcl ?_
      change W _ _ _ _ _ _ _ _ _ _ _ _ (_ + 2) (_ + 12) _ _
      refine lv_astore C0.1 C0.2.1 dL_slack_13 hl (by decide) rfl (fun ls hl => ?_)
      refine lv_iconst (v := 1) C0.1 C0.2.1 dL_slack_15 (by decide) ?_
      exact e_I C0 Y hO hS h (by show _ ≤ 2; omega) (by show _ ≤ 12; omega) dL_slack_16
    · refine k_catch C0 ht9 (tableOf [(0, 10, 13, 19)]) ⟨0, 10, 17, 21⟩ (tableOf []) rfl (List.forall_mem_cons.mpr ⟨no_of C0 (by decide) tb_533 (by decide +kernel), (fun z hz => absurd hz (List.not_mem_nil))⟩) rfl (by decide) tb_557 (by decide +kernel) hcell hv9 hcl ?_
      change W _ _ _ _ _ _ _ _ _ _ _ _ (_ + 2) (_ + 12) _ _
      refine lv_astore C0.1 C0.2.1 dL_slack_17 hl (by decide) rfl (fun ls hl => ?_)
      refine lv_iconst (v := 2) C0.1 C0.2.1 dL_slack_19 (by decide) ?_
      exact e_I C0 Y hO hS h (by show _ ≤ 2; omega) (by show _ ≤ 12; omega) dL_slack_20
  · change W _ _ _ _ _ _ _ _ _ _ _ _ (_ + 2) (_ + 12) _ _
    refine lv_i2l C0.1 C0.2.1 dL_slack_8 rfl ?_
    obtain ⟨i4, h⟩ := h
    obtain ⟨e5, h⟩ := h
    refine r_last C0 hO hS i4 e5 dL_slack_9 (fun H locs hO hS => ?_)
    have h := h _ rfl
    refine lv_goto (tgt := 21) C0.1 C0.2.1 dL_slack_10 (by decide) ?_
    refine lv_iconst (v := 0) C0.1 C0.2.1 dL_slack_21 (by decide) ?_
    exact e_I C0 Y hO hS h (by show _ ≤ 2; omega) (by show _ ≤ 12; omega) dL_slack_22
def wL_slack (S : Hp) (x0 : Nat) (x1 : Int32) (x2 : Int32) (x3 : Nat) (Φ : Hp → Int32 → Prop) : Prop := wL_slack_b0 x0 x1 x2 x3 Φ S
set_option maxRecDepth 100000 in
theorem mL_slack {l : Launch} {G : Gw} (hl9 : l.stackTraces = false) {S : Hp} {x0 : Nat} {x1 : Int32} {x2 : Int32} {x3 : Nat} {Φ : Hp → Int32 → Prop} (h : wL_slack S x0 x1 x2 x3 Φ) : gW l yL_slack cL_slack 5 (some .int) [(0, 10, 13, 19), (0, 10, 17, 21)] rm_L_slack [.ref x0, .int x1, .int x2, .ref x3] G S (PI Φ) := by
  unfold gW
  refine va_MetW (hh := [(0, 10, 13, 19), (0, 10, 17, 21)]) (cc := cL_slack) (maxL := 5) (ret := (some .int)) (by decide) rfl ?_
  intro p e s m args below meth c s₁ B hml hv
  obtain ⟨rfl, hw⟩ := hv
  obtain ⟨C0, Y, hO, ht9⟩ := mx_ofW B hml hw
  have hS : va_S (Ab G.b) s.heap s.heap [] := va_S.rf
  have hl := lv_entry ([.ref x0, .int x1, .int x2, .ref x3]) (n := 5) (Nat.le_of_ble_eq_true rfl)
  rw [lg_entry_eq]
  generalize (lg_sl ([.ref x0, .int x1, .int x2, .ref x3]) ++ List.replicate (5 - (lg_sl ([.ref x0, .int x1, .int x2, .ref x3])).length) Slot.unset).toArray = ls at hl ⊢
  have hl : lv_has ls 5 [(0, .ref x0), (1, .int x1), (2, .int x2), (3, .ref x3)] := hl
  exact bL_slack_b0 C0 Y hl9 ht9 S _ _ _ 0 0 h hO hS hl (by decide) (by decide)

theorem hd_L_turn : nmOk yL_turn 4 := by unfold nmOk; decide +kernel
def rm_L_turn : Room := { frames := 8, cells := 3, slots := 18, locals := 155 }
def wL_turn_b0 (x0 : Nat) (x1 : Int32) (x2 : Int32) (x3 : Nat) (Φ : Hp → Int32 → Prop) (S : Hp) : Prop := isA S x0 7 ∧ wX7_turn S x0 x1 x2 (fun S1 r2 => isA S1 x3 22 ∧ vp_in 0 (S1.N x3) ∧ ∀ S6, S6 = S1.setAJ x3 ((0 : Int32).toNatClampNeg) r2.toInt64 → Φ S6 0) (fun S9 E9 => (E9 = "java/lang/IndexOutOfBoundsException" ∧ Φ S9 1) ∨ (E9 = "java/lang/IllegalArgumentException" ∧ Φ S9 2) ∨ (E9 = "java/lang/UnsupportedOperationException" ∧ Φ S9 3))
set_option maxHeartbeats 4000000 in
set_option maxRecDepth 100000 in
theorem bL_turn_b0 {p : Program} {l : Launch} {e : Env} {s : State} {m : MethodId} {args : Array Value} {below : List Frame} {meth : Method} {c : Code} {G : Gw} {x0 : Nat} {x1 : Int32} {x2 : Int32} {x3 : Nat} {Φ : Hp → Int32 → Prop} (C0 : Mx p s m c cL_turn 5 args yL_turn.cls G) (Y : My meth (some .int)) (hl9 : l.stackTraces = false) (ht9 : c.exceptionTable.toList = tableOf [(0, 10, 13, 19), (0, 10, 17, 21), (0, 10, 21, 23)])  : ∀ (S : Hp) (H : Heap) (locs : List Loc) (ls : Array Slot) (cells slots : Nat), wL_turn_b0 x0 x1 x2 x3 Φ S → Ok G S H → va_S (Ab G.b) s.heap H locs → lv_has ls 5 [(0, .ref x0), (1, .int x1), (2, .int x2), (3, .ref x3)] → cells + (3) ≤ 3 → slots + (18) ≤ 18 → W p l e rm_L_turn s m args below meth c H locs cells slots (MQ below (gQ G (PI Φ)) args s rm_L_turn.cells rm_L_turn.slots (Ab G.b)) (F0 m 0 ls []) := by
  intro S H locs ls cells slots h hO hS hl hcc hss
  unfold wL_turn_b0 at h
  refine lv_aload_n C0.1 C0.2.1 dL_turn_0 rfl (lv_at hl 3 rfl) ?_
  refine lv_iconst (v := 0) C0.1 C0.2.1 dL_turn_1 (by decide) ?_
  refine lv_aload_n C0.1 C0.2.1 dL_turn_2 rfl (lv_at hl 0 rfl) ?_
  refine lv_iload_n C0.1 C0.2.1 dL_turn_3 rfl (lv_at hl 1 rfl) ?_
  refine lv_iload_n C0.1 C0.2.1 dL_turn_4 rfl (lv_at hl 2 rfl) ?_
  obtain ⟨i3, h⟩ := h
  refine y_V C0 hO hS (mX7_turn hl9 h) i3 (by decide) rfl rfl tb_802 tb_803 tb_804 tb_74 tb_805 hd_X7_turn rfl ⟨⟨by decide, by decide⟩, by show _ + 3 ≤ 3; omega, by show _ + 18 ≤ 18; omega⟩ hl.1 rfl (Nat.le_of_ble_eq_true rfl) dL_turn_5 (fun E9 ce9 q9 S9 H locs h hO hS hcell hv9 hcl => ?_) (kI (fun r2 S1 H locs h hO hS => ?_))
  · rcases h with ⟨rfl, h⟩ | ⟨rfl, h⟩ | ⟨rfl, h⟩
    · refine k_catch C0 ht9 (tableOf []) ⟨0, 10, 13, 19⟩ (tableOf [(0, 10, 17, 21), (0, 10, 21, 23)]) rfl (fun z hz => absurd hz (List.not_mem_nil)) rfl (by decide) tb_533 (by decide +kernel) hcell hv9 hcl ?_
      change W _ _ _ _ _ _ _ _ _ _ _ _ (_ + 3) (_ + 18) _ _
      refine lv_astore C0.1 C0.2.1 dL_turn_13 hl (by decide) rfl (fun ls hl => ?_)
      refine lv_iconst (v := 1) C0.1 C0.2.1 dL_turn_15 (by decide) ?_
      exact e_I C0 Y hO hS h (by show _ ≤ 3; omega) (by show _ ≤ 18; omega) dL_turn_16
    · refine k_catch C0 ht9 (tableOf [(0, 10, 13, 19)]) ⟨0, 10, 17, 21⟩ (tableOf [(0, 10, 21, 23)]) rfl (List.forall_mem_cons.mpr ⟨no_of C0 (by decide) tb_533 (by decide +kernel), (fun z hz => absurd hz (List.not_mem_nil))⟩) rfl (by decide) tb_557 (by decide +kernel) hcell hv9 hcl ?_
      change W _ _ _ _ _ _ _ _ _ _ _ _ (_ + 3) (_ + 18) _ _
      refine lv_astore C0.1 C0.2.1 dL_turn_17 hl (by decide) rfl (fun ls hl => ?_)
      refine lv_iconst (v := 2) C0.1 C0.2.1 dL_turn_19 (by decide) ?_
      exact e_I C0 Y hO hS h (by show _ ≤ 3; omega) (by show _ ≤ 18; omega) dL_turn_20
    · refine k_catch C0 ht9 (tableOf [(0, 10, 13, 19), (0, 10, 17, 21)]) ⟨0, 10, 21, 23⟩ (tableOf []) rfl (List.forall_mem_cons.mpr ⟨no_of C0 (by decide) tb_533 (by decide +kernel), (List.forall_mem_cons.mpr ⟨no_of C0 (by decide) tb_557 (by decide +kernel), (fun z hz => absurd hz (List.not_mem_nil))⟩)⟩) rfl (by decide) tb_558 (by decide +kernel) hcell hv9 hcl ?_
      change W _ _ _ _ _ _ _ _ _ _ _ _ (_ + 3) (_ + 18) _ _
      refine lv_astore C0.1 C0.2.1 dL_turn_21 hl (by decide) rfl (fun ls hl => ?_)
      refine lv_iconst (v := 3) C0.1 C0.2.1 dL_turn_23 (by decide) ?_
      exact e_I C0 Y hO hS h (by show _ ≤ 3; omega) (by show _ ≤ 18; omega) dL_turn_24
  · change W _ _ _ _ _ _ _ _ _ _ _ _ (_ + 3) (_ + 18) _ _
    refine lv_i2l C0.1 C0.2.1 dL_turn_8 rfl ?_
    obtain ⟨i4, h⟩ := h
    obtain ⟨e5, h⟩ := h
    refine r_last C0 hO hS i4 e5 dL_turn_9 (fun H locs hO hS => ?_)
    have h := h _ rfl
    refine lv_goto (tgt := 25) C0.1 C0.2.1 dL_turn_10 (by decide) ?_
    refine lv_iconst (v := 0) C0.1 C0.2.1 dL_turn_25 (by decide) ?_
    exact e_I C0 Y hO hS h (by show _ ≤ 3; omega) (by show _ ≤ 18; omega) dL_turn_26
def wL_turn (S : Hp) (x0 : Nat) (x1 : Int32) (x2 : Int32) (x3 : Nat) (Φ : Hp → Int32 → Prop) : Prop := wL_turn_b0 x0 x1 x2 x3 Φ S
set_option maxRecDepth 100000 in
theorem mL_turn {l : Launch} {G : Gw} (hl9 : l.stackTraces = false) {S : Hp} {x0 : Nat} {x1 : Int32} {x2 : Int32} {x3 : Nat} {Φ : Hp → Int32 → Prop} (h : wL_turn S x0 x1 x2 x3 Φ) : gW l yL_turn cL_turn 5 (some .int) [(0, 10, 13, 19), (0, 10, 17, 21), (0, 10, 21, 23)] rm_L_turn [.ref x0, .int x1, .int x2, .ref x3] G S (PI Φ) := by
  unfold gW
  refine va_MetW (hh := [(0, 10, 13, 19), (0, 10, 17, 21), (0, 10, 21, 23)]) (cc := cL_turn) (maxL := 5) (ret := (some .int)) (by decide) rfl ?_
  intro p e s m args below meth c s₁ B hml hv
  obtain ⟨rfl, hw⟩ := hv
  obtain ⟨C0, Y, hO, ht9⟩ := mx_ofW B hml hw
  have hS : va_S (Ab G.b) s.heap s.heap [] := va_S.rf
  have hl := lv_entry ([.ref x0, .int x1, .int x2, .ref x3]) (n := 5) (Nat.le_of_ble_eq_true rfl)
  rw [lg_entry_eq]
  generalize (lg_sl ([.ref x0, .int x1, .int x2, .ref x3]) ++ List.replicate (5 - (lg_sl ([.ref x0, .int x1, .int x2, .ref x3])).length) Slot.unset).toArray = ls at hl ⊢
  have hl : lv_has ls 5 [(0, .ref x0), (1, .int x1), (2, .int x2), (3, .ref x3)] := hl
  exact bL_turn_b0 C0 Y hl9 ht9 S _ _ _ 0 0 h hO hS hl (by decide) (by decide)

theorem hd_L_placeOver : nmOk yL_placeOver 3 := by unfold nmOk; decide +kernel
def rm_L_placeOver : Room := { frames := 8, cells := 1, slots := 6, locals := 132 }
def wL_placeOver_b0 (x0 : Nat) (x1 : Int32) (x2 : Nat) (Φ : Hp → Int32 → Prop) (S : Hp) : Prop := isA S x0 7 ∧ wX7_placeOver S x0 x1 (fun S1 r2 => isA S1 x2 22 ∧ vp_in 0 (S1.N x2) ∧ ∀ S6, S6 = S1.setAJ x2 ((0 : Int32).toNatClampNeg) r2 → Φ S6 0) (fun S9 E9 => (E9 = "java/lang/IndexOutOfBoundsException" ∧ Φ S9 1))
set_option maxHeartbeats 4000000 in
set_option maxRecDepth 100000 in
theorem bL_placeOver_b0 {p : Program} {l : Launch} {e : Env} {s : State} {m : MethodId} {args : Array Value} {below : List Frame} {meth : Method} {c : Code} {G : Gw} {x0 : Nat} {x1 : Int32} {x2 : Nat} {Φ : Hp → Int32 → Prop} (C0 : Mx p s m c cL_placeOver 4 args yL_placeOver.cls G) (Y : My meth (some .int)) (hl9 : l.stackTraces = false) (ht9 : c.exceptionTable.toList = tableOf [(0, 8, 11, 19)])  : ∀ (S : Hp) (H : Heap) (locs : List Loc) (ls : Array Slot) (cells slots : Nat), wL_placeOver_b0 x0 x1 x2 Φ S → Ok G S H → va_S (Ab G.b) s.heap H locs → lv_has ls 4 [(0, .ref x0), (1, .int x1), (2, .ref x2)] → cells + (1) ≤ 1 → slots + (6) ≤ 6 → W p l e rm_L_placeOver s m args below meth c H locs cells slots (MQ below (gQ G (PI Φ)) args s rm_L_placeOver.cells rm_L_placeOver.slots (Ab G.b)) (F0 m 0 ls []) := by
  intro S H locs ls cells slots h hO hS hl hcc hss
  unfold wL_placeOver_b0 at h
  refine lv_aload_n C0.1 C0.2.1 dL_placeOver_0 rfl (lv_at hl 2 rfl) ?_
  refine lv_iconst (v := 0) C0.1 C0.2.1 dL_placeOver_1 (by decide) ?_
  refine lv_aload_n C0.1 C0.2.1 dL_placeOver_2 rfl (lv_at hl 0 rfl) ?_
  refine lv_iload_n C0.1 C0.2.1 dL_placeOver_3 rfl (lv_at hl 1 rfl) ?_
  obtain ⟨i3, h⟩ := h
  refine y_V C0 hO hS (mX7_placeOver hl9 h) i3 (by decide) rfl rfl tb_854 tb_855 tb_856 tb_74 tb_857 hd_X7_placeOver rfl ⟨⟨by decide, by decide⟩, by show _ + 1 ≤ 1; omega, by show _ + 6 ≤ 6; omega⟩ hl.1 rfl (Nat.le_of_ble_eq_true rfl) dL_placeOver_4 (fun E9 ce9 q9 S9 H locs h hO hS hcell hv9 hcl => ?_) (kJ (fun r2 S1 H locs h hO hS => ?_))
  · rcases h with ⟨rfl, h⟩
    · refine k_catch C0 ht9 (tableOf []) ⟨0, 8, 11, 19⟩ (tableOf []) rfl (fun z hz => absurd hz (List.not_mem_nil)) rfl (by decide) tb_533 (by decide +kernel) hcell hv9 hcl ?_
      change W _ _ _ _ _ _ _ _ _ _ _ _ (_ + 1) (_ + 6) _ _
      refine lv_astore_n C0.1 C0.2.1 dL_placeOver_11 rfl hl (by decide) rfl (fun ls hl => ?_)
      refine lv_iconst (v := 1) C0.1 C0.2.1 dL_placeOver_12 (by decide) ?_
      exact e_I C0 Y hO hS h (by show _ ≤ 1; omega) (by show _ ≤ 6; omega) dL_placeOver_13
  · change W _ _ _ _ _ _ _ _ _ _ _ _ (_ + 1) (_ + 6) _ _
    obtain ⟨i4, h⟩ := h
    obtain ⟨e5, h⟩ := h
    refine r_last C0 hO hS i4 e5 dL_placeOver_7 (fun H locs hO hS => ?_)
    have h := h _ rfl
    refine lv_goto (tgt := 14) C0.1 C0.2.1 dL_placeOver_8 (by decide) ?_
    refine lv_iconst (v := 0) C0.1 C0.2.1 dL_placeOver_14 (by decide) ?_
    exact e_I C0 Y hO hS h (by show _ ≤ 1; omega) (by show _ ≤ 6; omega) dL_placeOver_15
def wL_placeOver (S : Hp) (x0 : Nat) (x1 : Int32) (x2 : Nat) (Φ : Hp → Int32 → Prop) : Prop := wL_placeOver_b0 x0 x1 x2 Φ S
set_option maxRecDepth 100000 in
theorem mL_placeOver {l : Launch} {G : Gw} (hl9 : l.stackTraces = false) {S : Hp} {x0 : Nat} {x1 : Int32} {x2 : Nat} {Φ : Hp → Int32 → Prop} (h : wL_placeOver S x0 x1 x2 Φ) : gW l yL_placeOver cL_placeOver 4 (some .int) [(0, 8, 11, 19)] rm_L_placeOver [.ref x0, .int x1, .ref x2] G S (PI Φ) := by
  unfold gW
  refine va_MetW (hh := [(0, 8, 11, 19)]) (cc := cL_placeOver) (maxL := 4) (ret := (some .int)) (by decide) rfl ?_
  intro p e s m args below meth c s₁ B hml hv
  obtain ⟨rfl, hw⟩ := hv
  obtain ⟨C0, Y, hO, ht9⟩ := mx_ofW B hml hw
  have hS : va_S (Ab G.b) s.heap s.heap [] := va_S.rf
  have hl := lv_entry ([.ref x0, .int x1, .ref x2]) (n := 4) (Nat.le_of_ble_eq_true rfl)
  rw [lg_entry_eq]
  generalize (lg_sl ([.ref x0, .int x1, .ref x2]) ++ List.replicate (4 - (lg_sl ([.ref x0, .int x1, .ref x2])).length) Slot.unset).toArray = ls at hl ⊢
  have hl : lv_has ls 4 [(0, .ref x0), (1, .int x1), (2, .ref x2)] := hl
  exact bL_placeOver_b0 C0 Y hl9 ht9 S _ _ _ 0 0 h hO hS hl (by decide) (by decide)

theorem hd_L_placeUnder : nmOk yL_placeUnder 3 := by unfold nmOk; decide +kernel
def rm_L_placeUnder : Room := { frames := 8, cells := 1, slots := 6, locals := 132 }
def wL_placeUnder_b0 (x0 : Nat) (x1 : Int32) (x2 : Nat) (Φ : Hp → Int32 → Prop) (S : Hp) : Prop := isA S x0 7 ∧ wX7_placeUnder S x0 x1 (fun S1 r2 => isA S1 x2 22 ∧ vp_in 0 (S1.N x2) ∧ ∀ S6, S6 = S1.setAJ x2 ((0 : Int32).toNatClampNeg) r2 → Φ S6 0) (fun S9 E9 => (E9 = "java/lang/IndexOutOfBoundsException" ∧ Φ S9 1))
set_option maxHeartbeats 4000000 in
set_option maxRecDepth 100000 in
theorem bL_placeUnder_b0 {p : Program} {l : Launch} {e : Env} {s : State} {m : MethodId} {args : Array Value} {below : List Frame} {meth : Method} {c : Code} {G : Gw} {x0 : Nat} {x1 : Int32} {x2 : Nat} {Φ : Hp → Int32 → Prop} (C0 : Mx p s m c cL_placeUnder 4 args yL_placeUnder.cls G) (Y : My meth (some .int)) (hl9 : l.stackTraces = false) (ht9 : c.exceptionTable.toList = tableOf [(0, 8, 11, 19)])  : ∀ (S : Hp) (H : Heap) (locs : List Loc) (ls : Array Slot) (cells slots : Nat), wL_placeUnder_b0 x0 x1 x2 Φ S → Ok G S H → va_S (Ab G.b) s.heap H locs → lv_has ls 4 [(0, .ref x0), (1, .int x1), (2, .ref x2)] → cells + (1) ≤ 1 → slots + (6) ≤ 6 → W p l e rm_L_placeUnder s m args below meth c H locs cells slots (MQ below (gQ G (PI Φ)) args s rm_L_placeUnder.cells rm_L_placeUnder.slots (Ab G.b)) (F0 m 0 ls []) := by
  intro S H locs ls cells slots h hO hS hl hcc hss
  unfold wL_placeUnder_b0 at h
  refine lv_aload_n C0.1 C0.2.1 dL_placeUnder_0 rfl (lv_at hl 2 rfl) ?_
  refine lv_iconst (v := 0) C0.1 C0.2.1 dL_placeUnder_1 (by decide) ?_
  refine lv_aload_n C0.1 C0.2.1 dL_placeUnder_2 rfl (lv_at hl 0 rfl) ?_
  refine lv_iload_n C0.1 C0.2.1 dL_placeUnder_3 rfl (lv_at hl 1 rfl) ?_
  obtain ⟨i3, h⟩ := h
  refine y_V C0 hO hS (mX7_placeUnder hl9 h) i3 (by decide) rfl rfl tb_861 tb_862 tb_863 tb_74 tb_864 hd_X7_placeUnder rfl ⟨⟨by decide, by decide⟩, by show _ + 1 ≤ 1; omega, by show _ + 6 ≤ 6; omega⟩ hl.1 rfl (Nat.le_of_ble_eq_true rfl) dL_placeUnder_4 (fun E9 ce9 q9 S9 H locs h hO hS hcell hv9 hcl => ?_) (kJ (fun r2 S1 H locs h hO hS => ?_))
  · rcases h with ⟨rfl, h⟩
    · refine k_catch C0 ht9 (tableOf []) ⟨0, 8, 11, 19⟩ (tableOf []) rfl (fun z hz => absurd hz (List.not_mem_nil)) rfl (by decide) tb_533 (by decide +kernel) hcell hv9 hcl ?_
      change W _ _ _ _ _ _ _ _ _ _ _ _ (_ + 1) (_ + 6) _ _
      refine lv_astore_n C0.1 C0.2.1 dL_placeUnder_11 rfl hl (by decide) rfl (fun ls hl => ?_)
      refine lv_iconst (v := 1) C0.1 C0.2.1 dL_placeUnder_12 (by decide) ?_
      exact e_I C0 Y hO hS h (by show _ ≤ 1; omega) (by show _ ≤ 6; omega) dL_placeUnder_13
  · change W _ _ _ _ _ _ _ _ _ _ _ _ (_ + 1) (_ + 6) _ _
    obtain ⟨i4, h⟩ := h
    obtain ⟨e5, h⟩ := h
    refine r_last C0 hO hS i4 e5 dL_placeUnder_7 (fun H locs hO hS => ?_)
    have h := h _ rfl
    refine lv_goto (tgt := 14) C0.1 C0.2.1 dL_placeUnder_8 (by decide) ?_
    refine lv_iconst (v := 0) C0.1 C0.2.1 dL_placeUnder_14 (by decide) ?_
    exact e_I C0 Y hO hS h (by show _ ≤ 1; omega) (by show _ ≤ 6; omega) dL_placeUnder_15
def wL_placeUnder (S : Hp) (x0 : Nat) (x1 : Int32) (x2 : Nat) (Φ : Hp → Int32 → Prop) : Prop := wL_placeUnder_b0 x0 x1 x2 Φ S
set_option maxRecDepth 100000 in
theorem mL_placeUnder {l : Launch} {G : Gw} (hl9 : l.stackTraces = false) {S : Hp} {x0 : Nat} {x1 : Int32} {x2 : Nat} {Φ : Hp → Int32 → Prop} (h : wL_placeUnder S x0 x1 x2 Φ) : gW l yL_placeUnder cL_placeUnder 4 (some .int) [(0, 8, 11, 19)] rm_L_placeUnder [.ref x0, .int x1, .ref x2] G S (PI Φ) := by
  unfold gW
  refine va_MetW (hh := [(0, 8, 11, 19)]) (cc := cL_placeUnder) (maxL := 4) (ret := (some .int)) (by decide) rfl ?_
  intro p e s m args below meth c s₁ B hml hv
  obtain ⟨rfl, hw⟩ := hv
  obtain ⟨C0, Y, hO, ht9⟩ := mx_ofW B hml hw
  have hS : va_S (Ab G.b) s.heap s.heap [] := va_S.rf
  have hl := lv_entry ([.ref x0, .int x1, .ref x2]) (n := 4) (Nat.le_of_ble_eq_true rfl)
  rw [lg_entry_eq]
  generalize (lg_sl ([.ref x0, .int x1, .ref x2]) ++ List.replicate (4 - (lg_sl ([.ref x0, .int x1, .ref x2])).length) Slot.unset).toArray = ls at hl ⊢
  have hl : lv_has ls 4 [(0, .ref x0), (1, .int x1), (2, .ref x2)] := hl
  exact bL_placeUnder_b0 C0 Y hl9 ht9 S _ _ _ 0 0 h hO hS hl (by decide) (by decide)

theorem hd_L_ratioOver : nmOk yL_ratioOver 4 := by unfold nmOk; decide +kernel
def rm_L_ratioOver : Room := { frames := 9, cells := 3, slots := 18, locals := 156 }
def wL_ratioOver_b0 (x0 : Nat) (x1 : Int32) (x2 : Int32) (x3 : Nat) (Φ : Hp → Int32 → Prop) (S : Hp) : Prop := isA S x0 7 ∧ wX7_ratioOver S x0 x1 x2 (fun S1 r2 => isA S1 x3 22 ∧ vp_in 0 (S1.N x3) ∧ ∀ S6, S6 = S1.setAJ x3 ((0 : Int32).toNatClampNeg) r2 → Φ S6 0) (fun S9 E9 => (E9 = "java/lang/IndexOutOfBoundsException" ∧ Φ S9 1) ∨ (E9 = "java/lang/UnsupportedOperationException" ∧ Φ S9 2))
set_option maxHeartbeats 4000000 in
set_option maxRecDepth 100000 in
theorem bL_ratioOver_b0 {p : Program} {l : Launch} {e : Env} {s : State} {m : MethodId} {args : Array Value} {below : List Frame} {meth : Method} {c : Code} {G : Gw} {x0 : Nat} {x1 : Int32} {x2 : Int32} {x3 : Nat} {Φ : Hp → Int32 → Prop} (C0 : Mx p s m c cL_ratioOver 5 args yL_ratioOver.cls G) (Y : My meth (some .int)) (hl9 : l.stackTraces = false) (ht9 : c.exceptionTable.toList = tableOf [(0, 9, 12, 19), (0, 9, 16, 23)])  : ∀ (S : Hp) (H : Heap) (locs : List Loc) (ls : Array Slot) (cells slots : Nat), wL_ratioOver_b0 x0 x1 x2 x3 Φ S → Ok G S H → va_S (Ab G.b) s.heap H locs → lv_has ls 5 [(0, .ref x0), (1, .int x1), (2, .int x2), (3, .ref x3)] → cells + (3) ≤ 3 → slots + (18) ≤ 18 → W p l e rm_L_ratioOver s m args below meth c H locs cells slots (MQ below (gQ G (PI Φ)) args s rm_L_ratioOver.cells rm_L_ratioOver.slots (Ab G.b)) (F0 m 0 ls []) := by
  intro S H locs ls cells slots h hO hS hl hcc hss
  unfold wL_ratioOver_b0 at h
  refine lv_aload_n C0.1 C0.2.1 dL_ratioOver_0 rfl (lv_at hl 3 rfl) ?_
  refine lv_iconst (v := 0) C0.1 C0.2.1 dL_ratioOver_1 (by decide) ?_
  refine lv_aload_n C0.1 C0.2.1 dL_ratioOver_2 rfl (lv_at hl 0 rfl) ?_
  refine lv_iload_n C0.1 C0.2.1 dL_ratioOver_3 rfl (lv_at hl 1 rfl) ?_
  refine lv_iload_n C0.1 C0.2.1 dL_ratioOver_4 rfl (lv_at hl 2 rfl) ?_
  obtain ⟨i3, h⟩ := h
  refine y_V C0 hO hS (mX7_ratioOver hl9 h) i3 (by decide) rfl rfl tb_868 tb_869 tb_870 tb_74 tb_871 hd_X7_ratioOver rfl ⟨⟨by decide, by decide⟩, by show _ + 3 ≤ 3; omega, by show _ + 18 ≤ 18; omega⟩ hl.1 rfl (Nat.le_of_ble_eq_true rfl) dL_ratioOver_5 (fun E9 ce9 q9 S9 H locs h hO hS hcell hv9 hcl => ?_) (kJ (fun r2 S1 H locs h hO hS => ?_))
  · rcases h with ⟨rfl, h⟩ | ⟨rfl, h⟩
    · refine k_catch C0 ht9 (tableOf []) ⟨0, 9, 12, 19⟩ (tableOf [(0, 9, 16, 23)]) rfl (fun z hz => absurd hz (List.not_mem_nil)) rfl (by decide) tb_533 (by decide +kernel) hcell hv9 hcl ?_
      change W _ _ _ _ _ _ _ _ _ _ _ _ (_ + 3) (_ + 18) _ _
      refine lv_astore C0.1 C0.2.1 dL_ratioOver_12 hl (by decide) rfl (fun ls hl => ?_)
      refine lv_iconst (v := 1) C0.1 C0.2.1 dL_ratioOver_14 (by decide) ?_
      exact e_I C0 Y hO hS h (by show _ ≤ 3; omega) (by show _ ≤ 18; omega) dL_ratioOver_15
    · refine k_catch C0 ht9 (tableOf [(0, 9, 12, 19)]) ⟨0, 9, 16, 23⟩ (tableOf []) rfl (List.forall_mem_cons.mpr ⟨no_of C0 (by decide) tb_533 (by decide +kernel), (fun z hz => absurd hz (List.not_mem_nil))⟩) rfl (by decide) tb_558 (by decide +kernel) hcell hv9 hcl ?_
      change W _ _ _ _ _ _ _ _ _ _ _ _ (_ + 3) (_ + 18) _ _
      refine lv_astore C0.1 C0.2.1 dL_ratioOver_16 hl (by decide) rfl (fun ls hl => ?_)
      refine lv_iconst (v := 2) C0.1 C0.2.1 dL_ratioOver_18 (by decide) ?_
      exact e_I C0 Y hO hS h (by show _ ≤ 3; omega) (by show _ ≤ 18; omega) dL_ratioOver_19
  · change W _ _ _ _ _ _ _ _ _ _ _ _ (_ + 3) (_ + 18) _ _
    obtain ⟨i4, h⟩ := h
    obtain ⟨e5, h⟩ := h
    refine r_last C0 hO hS i4 e5 dL_ratioOver_8 (fun H locs hO hS => ?_)
    have h := h _ rfl
    refine lv_goto (tgt := 20) C0.1 C0.2.1 dL_ratioOver_9 (by decide) ?_
    refine lv_iconst (v := 0) C0.1 C0.2.1 dL_ratioOver_20 (by decide) ?_
    exact e_I C0 Y hO hS h (by show _ ≤ 3; omega) (by show _ ≤ 18; omega) dL_ratioOver_21
def wL_ratioOver (S : Hp) (x0 : Nat) (x1 : Int32) (x2 : Int32) (x3 : Nat) (Φ : Hp → Int32 → Prop) : Prop := wL_ratioOver_b0 x0 x1 x2 x3 Φ S
set_option maxRecDepth 100000 in
theorem mL_ratioOver {l : Launch} {G : Gw} (hl9 : l.stackTraces = false) {S : Hp} {x0 : Nat} {x1 : Int32} {x2 : Int32} {x3 : Nat} {Φ : Hp → Int32 → Prop} (h : wL_ratioOver S x0 x1 x2 x3 Φ) : gW l yL_ratioOver cL_ratioOver 5 (some .int) [(0, 9, 12, 19), (0, 9, 16, 23)] rm_L_ratioOver [.ref x0, .int x1, .int x2, .ref x3] G S (PI Φ) := by
  unfold gW
  refine va_MetW (hh := [(0, 9, 12, 19), (0, 9, 16, 23)]) (cc := cL_ratioOver) (maxL := 5) (ret := (some .int)) (by decide) rfl ?_
  intro p e s m args below meth c s₁ B hml hv
  obtain ⟨rfl, hw⟩ := hv
  obtain ⟨C0, Y, hO, ht9⟩ := mx_ofW B hml hw
  have hS : va_S (Ab G.b) s.heap s.heap [] := va_S.rf
  have hl := lv_entry ([.ref x0, .int x1, .int x2, .ref x3]) (n := 5) (Nat.le_of_ble_eq_true rfl)
  rw [lg_entry_eq]
  generalize (lg_sl ([.ref x0, .int x1, .int x2, .ref x3]) ++ List.replicate (5 - (lg_sl ([.ref x0, .int x1, .int x2, .ref x3])).length) Slot.unset).toArray = ls at hl ⊢
  have hl : lv_has ls 5 [(0, .ref x0), (1, .int x1), (2, .int x2), (3, .ref x3)] := hl
  exact bL_ratioOver_b0 C0 Y hl9 ht9 S _ _ _ 0 0 h hO hS hl (by decide) (by decide)

theorem hd_L_ratioUnder : nmOk yL_ratioUnder 4 := by unfold nmOk; decide +kernel
def rm_L_ratioUnder : Room := { frames := 9, cells := 3, slots := 18, locals := 156 }
def wL_ratioUnder_b0 (x0 : Nat) (x1 : Int32) (x2 : Int32) (x3 : Nat) (Φ : Hp → Int32 → Prop) (S : Hp) : Prop := isA S x0 7 ∧ wX7_ratioUnder S x0 x1 x2 (fun S1 r2 => isA S1 x3 22 ∧ vp_in 0 (S1.N x3) ∧ ∀ S6, S6 = S1.setAJ x3 ((0 : Int32).toNatClampNeg) r2 → Φ S6 0) (fun S9 E9 => (E9 = "java/lang/IndexOutOfBoundsException" ∧ Φ S9 1) ∨ (E9 = "java/lang/UnsupportedOperationException" ∧ Φ S9 2))
set_option maxHeartbeats 4000000 in
set_option maxRecDepth 100000 in
theorem bL_ratioUnder_b0 {p : Program} {l : Launch} {e : Env} {s : State} {m : MethodId} {args : Array Value} {below : List Frame} {meth : Method} {c : Code} {G : Gw} {x0 : Nat} {x1 : Int32} {x2 : Int32} {x3 : Nat} {Φ : Hp → Int32 → Prop} (C0 : Mx p s m c cL_ratioUnder 5 args yL_ratioUnder.cls G) (Y : My meth (some .int)) (hl9 : l.stackTraces = false) (ht9 : c.exceptionTable.toList = tableOf [(0, 9, 12, 19), (0, 9, 16, 23)])  : ∀ (S : Hp) (H : Heap) (locs : List Loc) (ls : Array Slot) (cells slots : Nat), wL_ratioUnder_b0 x0 x1 x2 x3 Φ S → Ok G S H → va_S (Ab G.b) s.heap H locs → lv_has ls 5 [(0, .ref x0), (1, .int x1), (2, .int x2), (3, .ref x3)] → cells + (3) ≤ 3 → slots + (18) ≤ 18 → W p l e rm_L_ratioUnder s m args below meth c H locs cells slots (MQ below (gQ G (PI Φ)) args s rm_L_ratioUnder.cells rm_L_ratioUnder.slots (Ab G.b)) (F0 m 0 ls []) := by
  intro S H locs ls cells slots h hO hS hl hcc hss
  unfold wL_ratioUnder_b0 at h
  refine lv_aload_n C0.1 C0.2.1 dL_ratioUnder_0 rfl (lv_at hl 3 rfl) ?_
  refine lv_iconst (v := 0) C0.1 C0.2.1 dL_ratioUnder_1 (by decide) ?_
  refine lv_aload_n C0.1 C0.2.1 dL_ratioUnder_2 rfl (lv_at hl 0 rfl) ?_
  refine lv_iload_n C0.1 C0.2.1 dL_ratioUnder_3 rfl (lv_at hl 1 rfl) ?_
  refine lv_iload_n C0.1 C0.2.1 dL_ratioUnder_4 rfl (lv_at hl 2 rfl) ?_
  obtain ⟨i3, h⟩ := h
  refine y_V C0 hO hS (mX7_ratioUnder hl9 h) i3 (by decide) rfl rfl tb_893 tb_894 tb_895 tb_74 tb_896 hd_X7_ratioUnder rfl ⟨⟨by decide, by decide⟩, by show _ + 3 ≤ 3; omega, by show _ + 18 ≤ 18; omega⟩ hl.1 rfl (Nat.le_of_ble_eq_true rfl) dL_ratioUnder_5 (fun E9 ce9 q9 S9 H locs h hO hS hcell hv9 hcl => ?_) (kJ (fun r2 S1 H locs h hO hS => ?_))
  · rcases h with ⟨rfl, h⟩ | ⟨rfl, h⟩
    · refine k_catch C0 ht9 (tableOf []) ⟨0, 9, 12, 19⟩ (tableOf [(0, 9, 16, 23)]) rfl (fun z hz => absurd hz (List.not_mem_nil)) rfl (by decide) tb_533 (by decide +kernel) hcell hv9 hcl ?_
      change W _ _ _ _ _ _ _ _ _ _ _ _ (_ + 3) (_ + 18) _ _
      refine lv_astore C0.1 C0.2.1 dL_ratioUnder_12 hl (by decide) rfl (fun ls hl => ?_)
      refine lv_iconst (v := 1) C0.1 C0.2.1 dL_ratioUnder_14 (by decide) ?_
      exact e_I C0 Y hO hS h (by show _ ≤ 3; omega) (by show _ ≤ 18; omega) dL_ratioUnder_15
    · refine k_catch C0 ht9 (tableOf [(0, 9, 12, 19)]) ⟨0, 9, 16, 23⟩ (tableOf []) rfl (List.forall_mem_cons.mpr ⟨no_of C0 (by decide) tb_533 (by decide +kernel), (fun z hz => absurd hz (List.not_mem_nil))⟩) rfl (by decide) tb_558 (by decide +kernel) hcell hv9 hcl ?_
      change W _ _ _ _ _ _ _ _ _ _ _ _ (_ + 3) (_ + 18) _ _
      refine lv_astore C0.1 C0.2.1 dL_ratioUnder_16 hl (by decide) rfl (fun ls hl => ?_)
      refine lv_iconst (v := 2) C0.1 C0.2.1 dL_ratioUnder_18 (by decide) ?_
      exact e_I C0 Y hO hS h (by show _ ≤ 3; omega) (by show _ ≤ 18; omega) dL_ratioUnder_19
  · change W _ _ _ _ _ _ _ _ _ _ _ _ (_ + 3) (_ + 18) _ _
    obtain ⟨i4, h⟩ := h
    obtain ⟨e5, h⟩ := h
    refine r_last C0 hO hS i4 e5 dL_ratioUnder_8 (fun H locs hO hS => ?_)
    have h := h _ rfl
    refine lv_goto (tgt := 20) C0.1 C0.2.1 dL_ratioUnder_9 (by decide) ?_
    refine lv_iconst (v := 0) C0.1 C0.2.1 dL_ratioUnder_20 (by decide) ?_
    exact e_I C0 Y hO hS h (by show _ ≤ 3; omega) (by show _ ≤ 18; omega) dL_ratioUnder_21
def wL_ratioUnder (S : Hp) (x0 : Nat) (x1 : Int32) (x2 : Int32) (x3 : Nat) (Φ : Hp → Int32 → Prop) : Prop := wL_ratioUnder_b0 x0 x1 x2 x3 Φ S
set_option maxRecDepth 100000 in
theorem mL_ratioUnder {l : Launch} {G : Gw} (hl9 : l.stackTraces = false) {S : Hp} {x0 : Nat} {x1 : Int32} {x2 : Int32} {x3 : Nat} {Φ : Hp → Int32 → Prop} (h : wL_ratioUnder S x0 x1 x2 x3 Φ) : gW l yL_ratioUnder cL_ratioUnder 5 (some .int) [(0, 9, 12, 19), (0, 9, 16, 23)] rm_L_ratioUnder [.ref x0, .int x1, .int x2, .ref x3] G S (PI Φ) := by
  unfold gW
  refine va_MetW (hh := [(0, 9, 12, 19), (0, 9, 16, 23)]) (cc := cL_ratioUnder) (maxL := 5) (ret := (some .int)) (by decide) rfl ?_
  intro p e s m args below meth c s₁ B hml hv
  obtain ⟨rfl, hw⟩ := hv
  obtain ⟨C0, Y, hO, ht9⟩ := mx_ofW B hml hw
  have hS : va_S (Ab G.b) s.heap s.heap [] := va_S.rf
  have hl := lv_entry ([.ref x0, .int x1, .int x2, .ref x3]) (n := 5) (Nat.le_of_ble_eq_true rfl)
  rw [lg_entry_eq]
  generalize (lg_sl ([.ref x0, .int x1, .int x2, .ref x3]) ++ List.replicate (5 - (lg_sl ([.ref x0, .int x1, .int x2, .ref x3])).length) Slot.unset).toArray = ls at hl ⊢
  have hl : lv_has ls 5 [(0, .ref x0), (1, .int x1), (2, .int x2), (3, .ref x3)] := hl
  exact bL_ratioUnder_b0 C0 Y hl9 ht9 S _ _ _ 0 0 h hO hS hl (by decide) (by decide)

theorem hd_L_driver : nmOk yL_driver 3 := by unfold nmOk; decide +kernel
def rm_L_driver : Room := { frames := 8, cells := 2, slots := 12, locals := 132 }
def wL_driver_b0 (x0 : Nat) (x1 : Int32) (x2 : Nat) (Φ : Hp → Int32 → Prop) (S : Hp) : Prop := isA S x0 7 ∧ wX7_driver S x0 x1 (fun S1 r2 => isA S1 x2 22 ∧ vp_in 0 (S1.N x2) ∧ ∀ S6, S6 = S1.setAJ x2 ((0 : Int32).toNatClampNeg) r2.toInt64 → Φ S6 0) (fun S9 E9 => (E9 = "java/lang/IndexOutOfBoundsException" ∧ Φ S9 1) ∨ (E9 = "java/util/NoSuchElementException" ∧ Φ S9 2))
set_option maxHeartbeats 4000000 in
set_option maxRecDepth 100000 in
theorem bL_driver_b0 {p : Program} {l : Launch} {e : Env} {s : State} {m : MethodId} {args : Array Value} {below : List Frame} {meth : Method} {c : Code} {G : Gw} {x0 : Nat} {x1 : Int32} {x2 : Nat} {Φ : Hp → Int32 → Prop} (C0 : Mx p s m c cL_driver 4 args yL_driver.cls G) (Y : My meth (some .int)) (hl9 : l.stackTraces = false) (ht9 : c.exceptionTable.toList = tableOf [(0, 9, 12, 19), (0, 9, 15, 61)])  : ∀ (S : Hp) (H : Heap) (locs : List Loc) (ls : Array Slot) (cells slots : Nat), wL_driver_b0 x0 x1 x2 Φ S → Ok G S H → va_S (Ab G.b) s.heap H locs → lv_has ls 4 [(0, .ref x0), (1, .int x1), (2, .ref x2)] → cells + (2) ≤ 2 → slots + (12) ≤ 12 → W p l e rm_L_driver s m args below meth c H locs cells slots (MQ below (gQ G (PI Φ)) args s rm_L_driver.cells rm_L_driver.slots (Ab G.b)) (F0 m 0 ls []) := by
  intro S H locs ls cells slots h hO hS hl hcc hss
  unfold wL_driver_b0 at h
  refine lv_aload_n C0.1 C0.2.1 dL_driver_0 rfl (lv_at hl 2 rfl) ?_
  refine lv_iconst (v := 0) C0.1 C0.2.1 dL_driver_1 (by decide) ?_
  refine lv_aload_n C0.1 C0.2.1 dL_driver_2 rfl (lv_at hl 0 rfl) ?_
  refine lv_iload_n C0.1 C0.2.1 dL_driver_3 rfl (lv_at hl 1 rfl) ?_
  obtain ⟨i3, h⟩ := h
  refine y_V C0 hO hS (mX7_driver hl9 h) i3 (by decide) rfl rfl tb_901 tb_902 tb_903 tb_74 tb_904 hd_X7_driver rfl ⟨⟨by decide, by decide⟩, by show _ + 2 ≤ 2; omega, by show _ + 12 ≤ 12; omega⟩ hl.1 rfl (Nat.le_of_ble_eq_true rfl) dL_driver_4 (fun E9 ce9 q9 S9 H locs h hO hS hcell hv9 hcl => ?_) (kI (fun r2 S1 H locs h hO hS => ?_))
  · rcases h with ⟨rfl, h⟩ | ⟨rfl, h⟩
    · refine k_catch C0 ht9 (tableOf []) ⟨0, 9, 12, 19⟩ (tableOf [(0, 9, 15, 61)]) rfl (fun z hz => absurd hz (List.not_mem_nil)) rfl (by decide) tb_533 (by decide +kernel) hcell hv9 hcl ?_
      change W _ _ _ _ _ _ _ _ _ _ _ _ (_ + 2) (_ + 12) _ _
      refine lv_astore_n C0.1 C0.2.1 dL_driver_12 rfl hl (by decide) rfl (fun ls hl => ?_)
      refine lv_iconst (v := 1) C0.1 C0.2.1 dL_driver_13 (by decide) ?_
      exact e_I C0 Y hO hS h (by show _ ≤ 2; omega) (by show _ ≤ 12; omega) dL_driver_14
    · refine k_catch C0 ht9 (tableOf [(0, 9, 12, 19)]) ⟨0, 9, 15, 61⟩ (tableOf []) rfl (List.forall_mem_cons.mpr ⟨no_of C0 (by decide) tb_533 (by decide +kernel), (fun z hz => absurd hz (List.not_mem_nil))⟩) rfl (by decide) tb_900 (by decide +kernel) hcell hv9 hcl ?_
      change W _ _ _ _ _ _ _ _ _ _ _ _ (_ + 2) (_ + 12) _ _
      refine lv_astore_n C0.1 C0.2.1 dL_driver_15 rfl hl (by decide) rfl (fun ls hl => ?_)
      refine lv_iconst (v := 2) C0.1 C0.2.1 dL_driver_16 (by decide) ?_
      exact e_I C0 Y hO hS h (by show _ ≤ 2; omega) (by show _ ≤ 12; omega) dL_driver_17
  · change W _ _ _ _ _ _ _ _ _ _ _ _ (_ + 2) (_ + 12) _ _
    refine lv_i2l C0.1 C0.2.1 dL_driver_7 rfl ?_
    obtain ⟨i4, h⟩ := h
    obtain ⟨e5, h⟩ := h
    refine r_last C0 hO hS i4 e5 dL_driver_8 (fun H locs hO hS => ?_)
    have h := h _ rfl
    refine lv_goto (tgt := 18) C0.1 C0.2.1 dL_driver_9 (by decide) ?_
    refine lv_iconst (v := 0) C0.1 C0.2.1 dL_driver_18 (by decide) ?_
    exact e_I C0 Y hO hS h (by show _ ≤ 2; omega) (by show _ ≤ 12; omega) dL_driver_19
def wL_driver (S : Hp) (x0 : Nat) (x1 : Int32) (x2 : Nat) (Φ : Hp → Int32 → Prop) : Prop := wL_driver_b0 x0 x1 x2 Φ S
set_option maxRecDepth 100000 in
theorem mL_driver {l : Launch} {G : Gw} (hl9 : l.stackTraces = false) {S : Hp} {x0 : Nat} {x1 : Int32} {x2 : Nat} {Φ : Hp → Int32 → Prop} (h : wL_driver S x0 x1 x2 Φ) : gW l yL_driver cL_driver 4 (some .int) [(0, 9, 12, 19), (0, 9, 15, 61)] rm_L_driver [.ref x0, .int x1, .ref x2] G S (PI Φ) := by
  unfold gW
  refine va_MetW (hh := [(0, 9, 12, 19), (0, 9, 15, 61)]) (cc := cL_driver) (maxL := 4) (ret := (some .int)) (by decide) rfl ?_
  intro p e s m args below meth c s₁ B hml hv
  obtain ⟨rfl, hw⟩ := hv
  obtain ⟨C0, Y, hO, ht9⟩ := mx_ofW B hml hw
  have hS : va_S (Ab G.b) s.heap s.heap [] := va_S.rf
  have hl := lv_entry ([.ref x0, .int x1, .ref x2]) (n := 4) (Nat.le_of_ble_eq_true rfl)
  rw [lg_entry_eq]
  generalize (lg_sl ([.ref x0, .int x1, .ref x2]) ++ List.replicate (4 - (lg_sl ([.ref x0, .int x1, .ref x2])).length) Slot.unset).toArray = ls at hl ⊢
  have hl : lv_has ls 4 [(0, .ref x0), (1, .int x1), (2, .ref x2)] := hl
  exact bL_driver_b0 C0 Y hl9 ht9 S _ _ _ 0 0 h hO hS hl (by decide) (by decide)

theorem hd_L_wornOver : nmOk yL_wornOver 3 := by unfold nmOk; decide +kernel
def rm_L_wornOver : Room := { frames := 8, cells := 1, slots := 6, locals := 132 }
def wL_wornOver_b0 (x0 : Nat) (x1 : Int32) (x2 : Nat) (Φ : Hp → Int32 → Prop) (S : Hp) : Prop := isA S x0 7 ∧ wX7_wornOver S x0 x1 (fun S1 r2 => isA S1 x2 22 ∧ vp_in 0 (S1.N x2) ∧ ∀ S6, S6 = S1.setAJ x2 ((0 : Int32).toNatClampNeg) r2 → Φ S6 0) (fun S9 E9 => (E9 = "java/lang/IndexOutOfBoundsException" ∧ Φ S9 1))
set_option maxHeartbeats 4000000 in
set_option maxRecDepth 100000 in
theorem bL_wornOver_b0 {p : Program} {l : Launch} {e : Env} {s : State} {m : MethodId} {args : Array Value} {below : List Frame} {meth : Method} {c : Code} {G : Gw} {x0 : Nat} {x1 : Int32} {x2 : Nat} {Φ : Hp → Int32 → Prop} (C0 : Mx p s m c cL_wornOver 4 args yL_wornOver.cls G) (Y : My meth (some .int)) (hl9 : l.stackTraces = false) (ht9 : c.exceptionTable.toList = tableOf [(0, 8, 11, 19)])  : ∀ (S : Hp) (H : Heap) (locs : List Loc) (ls : Array Slot) (cells slots : Nat), wL_wornOver_b0 x0 x1 x2 Φ S → Ok G S H → va_S (Ab G.b) s.heap H locs → lv_has ls 4 [(0, .ref x0), (1, .int x1), (2, .ref x2)] → cells + (1) ≤ 1 → slots + (6) ≤ 6 → W p l e rm_L_wornOver s m args below meth c H locs cells slots (MQ below (gQ G (PI Φ)) args s rm_L_wornOver.cells rm_L_wornOver.slots (Ab G.b)) (F0 m 0 ls []) := by
  intro S H locs ls cells slots h hO hS hl hcc hss
  unfold wL_wornOver_b0 at h
  refine lv_aload_n C0.1 C0.2.1 dL_wornOver_0 rfl (lv_at hl 2 rfl) ?_
  refine lv_iconst (v := 0) C0.1 C0.2.1 dL_wornOver_1 (by decide) ?_
  refine lv_aload_n C0.1 C0.2.1 dL_wornOver_2 rfl (lv_at hl 0 rfl) ?_
  refine lv_iload_n C0.1 C0.2.1 dL_wornOver_3 rfl (lv_at hl 1 rfl) ?_
  obtain ⟨i3, h⟩ := h
  refine y_V C0 hO hS (mX7_wornOver hl9 h) i3 (by decide) rfl rfl tb_924 tb_925 tb_926 tb_74 tb_927 hd_X7_wornOver rfl ⟨⟨by decide, by decide⟩, by show _ + 1 ≤ 1; omega, by show _ + 6 ≤ 6; omega⟩ hl.1 rfl (Nat.le_of_ble_eq_true rfl) dL_wornOver_4 (fun E9 ce9 q9 S9 H locs h hO hS hcell hv9 hcl => ?_) (kJ (fun r2 S1 H locs h hO hS => ?_))
  · rcases h with ⟨rfl, h⟩
    · refine k_catch C0 ht9 (tableOf []) ⟨0, 8, 11, 19⟩ (tableOf []) rfl (fun z hz => absurd hz (List.not_mem_nil)) rfl (by decide) tb_533 (by decide +kernel) hcell hv9 hcl ?_
      change W _ _ _ _ _ _ _ _ _ _ _ _ (_ + 1) (_ + 6) _ _
      refine lv_astore_n C0.1 C0.2.1 dL_wornOver_11 rfl hl (by decide) rfl (fun ls hl => ?_)
      refine lv_iconst (v := 1) C0.1 C0.2.1 dL_wornOver_12 (by decide) ?_
      exact e_I C0 Y hO hS h (by show _ ≤ 1; omega) (by show _ ≤ 6; omega) dL_wornOver_13
  · change W _ _ _ _ _ _ _ _ _ _ _ _ (_ + 1) (_ + 6) _ _
    obtain ⟨i4, h⟩ := h
    obtain ⟨e5, h⟩ := h
    refine r_last C0 hO hS i4 e5 dL_wornOver_7 (fun H locs hO hS => ?_)
    have h := h _ rfl
    refine lv_goto (tgt := 14) C0.1 C0.2.1 dL_wornOver_8 (by decide) ?_
    refine lv_iconst (v := 0) C0.1 C0.2.1 dL_wornOver_14 (by decide) ?_
    exact e_I C0 Y hO hS h (by show _ ≤ 1; omega) (by show _ ≤ 6; omega) dL_wornOver_15
def wL_wornOver (S : Hp) (x0 : Nat) (x1 : Int32) (x2 : Nat) (Φ : Hp → Int32 → Prop) : Prop := wL_wornOver_b0 x0 x1 x2 Φ S
set_option maxRecDepth 100000 in
theorem mL_wornOver {l : Launch} {G : Gw} (hl9 : l.stackTraces = false) {S : Hp} {x0 : Nat} {x1 : Int32} {x2 : Nat} {Φ : Hp → Int32 → Prop} (h : wL_wornOver S x0 x1 x2 Φ) : gW l yL_wornOver cL_wornOver 4 (some .int) [(0, 8, 11, 19)] rm_L_wornOver [.ref x0, .int x1, .ref x2] G S (PI Φ) := by
  unfold gW
  refine va_MetW (hh := [(0, 8, 11, 19)]) (cc := cL_wornOver) (maxL := 4) (ret := (some .int)) (by decide) rfl ?_
  intro p e s m args below meth c s₁ B hml hv
  obtain ⟨rfl, hw⟩ := hv
  obtain ⟨C0, Y, hO, ht9⟩ := mx_ofW B hml hw
  have hS : va_S (Ab G.b) s.heap s.heap [] := va_S.rf
  have hl := lv_entry ([.ref x0, .int x1, .ref x2]) (n := 4) (Nat.le_of_ble_eq_true rfl)
  rw [lg_entry_eq]
  generalize (lg_sl ([.ref x0, .int x1, .ref x2]) ++ List.replicate (4 - (lg_sl ([.ref x0, .int x1, .ref x2])).length) Slot.unset).toArray = ls at hl ⊢
  have hl : lv_has ls 4 [(0, .ref x0), (1, .int x1), (2, .ref x2)] := hl
  exact bL_wornOver_b0 C0 Y hl9 ht9 S _ _ _ 0 0 h hO hS hl (by decide) (by decide)

theorem hd_L_wornUnder : nmOk yL_wornUnder 3 := by unfold nmOk; decide +kernel
def rm_L_wornUnder : Room := { frames := 8, cells := 1, slots := 6, locals := 132 }
def wL_wornUnder_b0 (x0 : Nat) (x1 : Int32) (x2 : Nat) (Φ : Hp → Int32 → Prop) (S : Hp) : Prop := isA S x0 7 ∧ wX7_wornUnder S x0 x1 (fun S1 r2 => isA S1 x2 22 ∧ vp_in 0 (S1.N x2) ∧ ∀ S6, S6 = S1.setAJ x2 ((0 : Int32).toNatClampNeg) r2 → Φ S6 0) (fun S9 E9 => (E9 = "java/lang/IndexOutOfBoundsException" ∧ Φ S9 1))
set_option maxHeartbeats 4000000 in
set_option maxRecDepth 100000 in
theorem bL_wornUnder_b0 {p : Program} {l : Launch} {e : Env} {s : State} {m : MethodId} {args : Array Value} {below : List Frame} {meth : Method} {c : Code} {G : Gw} {x0 : Nat} {x1 : Int32} {x2 : Nat} {Φ : Hp → Int32 → Prop} (C0 : Mx p s m c cL_wornUnder 4 args yL_wornUnder.cls G) (Y : My meth (some .int)) (hl9 : l.stackTraces = false) (ht9 : c.exceptionTable.toList = tableOf [(0, 8, 11, 19)])  : ∀ (S : Hp) (H : Heap) (locs : List Loc) (ls : Array Slot) (cells slots : Nat), wL_wornUnder_b0 x0 x1 x2 Φ S → Ok G S H → va_S (Ab G.b) s.heap H locs → lv_has ls 4 [(0, .ref x0), (1, .int x1), (2, .ref x2)] → cells + (1) ≤ 1 → slots + (6) ≤ 6 → W p l e rm_L_wornUnder s m args below meth c H locs cells slots (MQ below (gQ G (PI Φ)) args s rm_L_wornUnder.cells rm_L_wornUnder.slots (Ab G.b)) (F0 m 0 ls []) := by
  intro S H locs ls cells slots h hO hS hl hcc hss
  unfold wL_wornUnder_b0 at h
  refine lv_aload_n C0.1 C0.2.1 dL_wornUnder_0 rfl (lv_at hl 2 rfl) ?_
  refine lv_iconst (v := 0) C0.1 C0.2.1 dL_wornUnder_1 (by decide) ?_
  refine lv_aload_n C0.1 C0.2.1 dL_wornUnder_2 rfl (lv_at hl 0 rfl) ?_
  refine lv_iload_n C0.1 C0.2.1 dL_wornUnder_3 rfl (lv_at hl 1 rfl) ?_
  obtain ⟨i3, h⟩ := h
  refine y_V C0 hO hS (mX7_wornUnder hl9 h) i3 (by decide) rfl rfl tb_931 tb_932 tb_933 tb_74 tb_934 hd_X7_wornUnder rfl ⟨⟨by decide, by decide⟩, by show _ + 1 ≤ 1; omega, by show _ + 6 ≤ 6; omega⟩ hl.1 rfl (Nat.le_of_ble_eq_true rfl) dL_wornUnder_4 (fun E9 ce9 q9 S9 H locs h hO hS hcell hv9 hcl => ?_) (kJ (fun r2 S1 H locs h hO hS => ?_))
  · rcases h with ⟨rfl, h⟩
    · refine k_catch C0 ht9 (tableOf []) ⟨0, 8, 11, 19⟩ (tableOf []) rfl (fun z hz => absurd hz (List.not_mem_nil)) rfl (by decide) tb_533 (by decide +kernel) hcell hv9 hcl ?_
      change W _ _ _ _ _ _ _ _ _ _ _ _ (_ + 1) (_ + 6) _ _
      refine lv_astore_n C0.1 C0.2.1 dL_wornUnder_11 rfl hl (by decide) rfl (fun ls hl => ?_)
      refine lv_iconst (v := 1) C0.1 C0.2.1 dL_wornUnder_12 (by decide) ?_
      exact e_I C0 Y hO hS h (by show _ ≤ 1; omega) (by show _ ≤ 6; omega) dL_wornUnder_13
  · change W _ _ _ _ _ _ _ _ _ _ _ _ (_ + 1) (_ + 6) _ _
    obtain ⟨i4, h⟩ := h
    obtain ⟨e5, h⟩ := h
    refine r_last C0 hO hS i4 e5 dL_wornUnder_7 (fun H locs hO hS => ?_)
    have h := h _ rfl
    refine lv_goto (tgt := 14) C0.1 C0.2.1 dL_wornUnder_8 (by decide) ?_
    refine lv_iconst (v := 0) C0.1 C0.2.1 dL_wornUnder_14 (by decide) ?_
    exact e_I C0 Y hO hS h (by show _ ≤ 1; omega) (by show _ ≤ 6; omega) dL_wornUnder_15
def wL_wornUnder (S : Hp) (x0 : Nat) (x1 : Int32) (x2 : Nat) (Φ : Hp → Int32 → Prop) : Prop := wL_wornUnder_b0 x0 x1 x2 Φ S
set_option maxRecDepth 100000 in
theorem mL_wornUnder {l : Launch} {G : Gw} (hl9 : l.stackTraces = false) {S : Hp} {x0 : Nat} {x1 : Int32} {x2 : Nat} {Φ : Hp → Int32 → Prop} (h : wL_wornUnder S x0 x1 x2 Φ) : gW l yL_wornUnder cL_wornUnder 4 (some .int) [(0, 8, 11, 19)] rm_L_wornUnder [.ref x0, .int x1, .ref x2] G S (PI Φ) := by
  unfold gW
  refine va_MetW (hh := [(0, 8, 11, 19)]) (cc := cL_wornUnder) (maxL := 4) (ret := (some .int)) (by decide) rfl ?_
  intro p e s m args below meth c s₁ B hml hv
  obtain ⟨rfl, hw⟩ := hv
  obtain ⟨C0, Y, hO, ht9⟩ := mx_ofW B hml hw
  have hS : va_S (Ab G.b) s.heap s.heap [] := va_S.rf
  have hl := lv_entry ([.ref x0, .int x1, .ref x2]) (n := 4) (Nat.le_of_ble_eq_true rfl)
  rw [lg_entry_eq]
  generalize (lg_sl ([.ref x0, .int x1, .ref x2]) ++ List.replicate (4 - (lg_sl ([.ref x0, .int x1, .ref x2])).length) Slot.unset).toArray = ls at hl ⊢
  have hl : lv_has ls 4 [(0, .ref x0), (1, .int x1), (2, .ref x2)] := hl
  exact bL_wornUnder_b0 C0 Y hl9 ht9 S _ _ _ 0 0 h hO hS hl (by decide) (by decide)

theorem hd_L_isBroken : nmOk yL_isBroken 3 := by unfold nmOk; decide +kernel
def rm_L_isBroken : Room := { frames := 9, cells := 1, slots := 6, locals := 153 }
def wL_isBroken_b0 (x0 : Nat) (x1 : Int32) (x2 : Nat) (Φ : Hp → Int32 → Prop) (S : Hp) : Prop := isA S x0 7 ∧ wX7_isBroken S x0 x1 (fun S1 r2 => ((r2 = 0 → isA S1 x2 22 ∧ vp_in 0 (S1.N x2) ∧ ∀ S7, S7 = S1.setAJ x2 ((0 : Int32).toNatClampNeg) 0 → Φ S7 0) ∧ (¬ (r2 = 0) → isA S1 x2 22 ∧ vp_in 0 (S1.N x2) ∧ ∀ S10, S10 = S1.setAJ x2 ((0 : Int32).toNatClampNeg) 1 → Φ S10 0))) (fun S9 E9 => (E9 = "java/lang/IndexOutOfBoundsException" ∧ Φ S9 1))
set_option maxHeartbeats 4000000 in
set_option maxRecDepth 100000 in
theorem bL_isBroken_b0 {p : Program} {l : Launch} {e : Env} {s : State} {m : MethodId} {args : Array Value} {below : List Frame} {meth : Method} {c : Code} {G : Gw} {x0 : Nat} {x1 : Int32} {x2 : Nat} {Φ : Hp → Int32 → Prop} (C0 : Mx p s m c cL_isBroken 4 args yL_isBroken.cls G) (Y : My meth (some .int)) (hl9 : l.stackTraces = false) (ht9 : c.exceptionTable.toList = tableOf [(0, 16, 19, 19)])  : ∀ (S : Hp) (H : Heap) (locs : List Loc) (ls : Array Slot) (cells slots : Nat), wL_isBroken_b0 x0 x1 x2 Φ S → Ok G S H → va_S (Ab G.b) s.heap H locs → lv_has ls 4 [(0, .ref x0), (1, .int x1), (2, .ref x2)] → cells + (1) ≤ 1 → slots + (6) ≤ 6 → W p l e rm_L_isBroken s m args below meth c H locs cells slots (MQ below (gQ G (PI Φ)) args s rm_L_isBroken.cells rm_L_isBroken.slots (Ab G.b)) (F0 m 0 ls []) := by
  intro S H locs ls cells slots h hO hS hl hcc hss
  unfold wL_isBroken_b0 at h
  refine lv_aload_n C0.1 C0.2.1 dL_isBroken_0 rfl (lv_at hl 2 rfl) ?_
  refine lv_iconst (v := 0) C0.1 C0.2.1 dL_isBroken_1 (by decide) ?_
  refine lv_aload_n C0.1 C0.2.1 dL_isBroken_2 rfl (lv_at hl 0 rfl) ?_
  refine lv_iload_n C0.1 C0.2.1 dL_isBroken_3 rfl (lv_at hl 1 rfl) ?_
  obtain ⟨i3, h⟩ := h
  refine y_V C0 hO hS (mX7_isBroken hl9 h) i3 (by decide) rfl rfl tb_938 tb_939 tb_940 tb_74 tb_941 hd_X7_isBroken rfl ⟨⟨by decide, by decide⟩, by show _ + 1 ≤ 1; omega, by show _ + 6 ≤ 6; omega⟩ hl.1 rfl (Nat.le_of_ble_eq_true rfl) dL_isBroken_4 (fun E9 ce9 q9 S9 H locs h hO hS hcell hv9 hcl => ?_) (kI (fun r2 S1 H locs h hO hS => ?_))
  · rcases h with ⟨rfl, h⟩
    · refine k_catch C0 ht9 (tableOf []) ⟨0, 16, 19, 19⟩ (tableOf []) rfl (fun z hz => absurd hz (List.not_mem_nil)) rfl (by decide) tb_533 (by decide +kernel) hcell hv9 hcl ?_
      change W _ _ _ _ _ _ _ _ _ _ _ _ (_ + 1) (_ + 6) _ _
      refine lv_astore_n C0.1 C0.2.1 dL_isBroken_19 rfl hl (by decide) rfl (fun ls hl => ?_)
      refine lv_iconst (v := 1) C0.1 C0.2.1 dL_isBroken_20 (by decide) ?_
      exact e_I C0 Y hO hS h (by show _ ≤ 1; omega) (by show _ ≤ 6; omega) dL_isBroken_21
  · change W _ _ _ _ _ _ _ _ _ _ _ _ (_ + 1) (_ + 6) _ _
    refine lv_if_eq (tgt := 14) C0.1 C0.2.1 dL_isBroken_7 (by decide) (fun c4 => ?_) (fun c4 => ?_)
    · have h := h.1 c4
      refine lv_lconst (v := 0) C0.1 C0.2.1 dL_isBroken_14 (by decide) ?_
      obtain ⟨i5, h⟩ := h
      obtain ⟨e6, h⟩ := h
      refine r_last C0 hO hS i5 e6 dL_isBroken_15 (fun H locs hO hS => ?_)
      have h := h _ rfl
      refine lv_goto (tgt := 22) C0.1 C0.2.1 dL_isBroken_16 (by decide) ?_
      refine lv_iconst (v := 0) C0.1 C0.2.1 dL_isBroken_22 (by decide) ?_
      exact e_I C0 Y hO hS h (by show _ ≤ 1; omega) (by show _ ≤ 6; omega) dL_isBroken_23
    · have h := h.2 c4
      refine lv_lconst (v := 1) C0.1 C0.2.1 dL_isBroken_10 (by decide) ?_
      refine lv_goto (tgt := 15) C0.1 C0.2.1 dL_isBroken_11 (by decide) ?_
      obtain ⟨i8, h⟩ := h
      obtain ⟨e9, h⟩ := h
      refine r_last C0 hO hS i8 e9 dL_isBroken_15 (fun H locs hO hS => ?_)
      have h := h _ rfl
      refine lv_goto (tgt := 22) C0.1 C0.2.1 dL_isBroken_16 (by decide) ?_
      refine lv_iconst (v := 0) C0.1 C0.2.1 dL_isBroken_22 (by decide) ?_
      exact e_I C0 Y hO hS h (by show _ ≤ 1; omega) (by show _ ≤ 6; omega) dL_isBroken_23
def wL_isBroken (S : Hp) (x0 : Nat) (x1 : Int32) (x2 : Nat) (Φ : Hp → Int32 → Prop) : Prop := wL_isBroken_b0 x0 x1 x2 Φ S
set_option maxRecDepth 100000 in
theorem mL_isBroken {l : Launch} {G : Gw} (hl9 : l.stackTraces = false) {S : Hp} {x0 : Nat} {x1 : Int32} {x2 : Nat} {Φ : Hp → Int32 → Prop} (h : wL_isBroken S x0 x1 x2 Φ) : gW l yL_isBroken cL_isBroken 4 (some .int) [(0, 16, 19, 19)] rm_L_isBroken [.ref x0, .int x1, .ref x2] G S (PI Φ) := by
  unfold gW
  refine va_MetW (hh := [(0, 16, 19, 19)]) (cc := cL_isBroken) (maxL := 4) (ret := (some .int)) (by decide) rfl ?_
  intro p e s m args below meth c s₁ B hml hv
  obtain ⟨rfl, hw⟩ := hv
  obtain ⟨C0, Y, hO, ht9⟩ := mx_ofW B hml hw
  have hS : va_S (Ab G.b) s.heap s.heap [] := va_S.rf
  have hl := lv_entry ([.ref x0, .int x1, .ref x2]) (n := 4) (Nat.le_of_ble_eq_true rfl)
  rw [lg_entry_eq]
  generalize (lg_sl ([.ref x0, .int x1, .ref x2]) ++ List.replicate (4 - (lg_sl ([.ref x0, .int x1, .ref x2])).length) Slot.unset).toArray = ls at hl ⊢
  have hl : lv_has ls 4 [(0, .ref x0), (1, .int x1), (2, .ref x2)] := hl
  exact bL_isBroken_b0 C0 Y hl9 ht9 S _ _ _ 0 0 h hO hS hl (by decide) (by decide)

theorem hd_L_repair : nmOk yL_repair 3 := by unfold nmOk; decide +kernel
def rm_L_repair : Room := { frames := 9, cells := 2, slots := 12, locals := 154 }
def wL_repair_b0 (x0 : Nat) (x1 : Int32) (x2 : Nat) (Φ : Hp → Int32 → Prop) (S : Hp) : Prop := isA S x0 7 ∧ wX7_repair S x0 x1 (fun S1 r2 => isA S1 x2 22 ∧ vp_in 0 (S1.N x2) ∧ ∀ S6, S6 = S1.setAJ x2 ((0 : Int32).toNatClampNeg) r2.toInt64 → Φ S6 0) (fun S9 E9 => (E9 = "java/lang/IndexOutOfBoundsException" ∧ Φ S9 1) ∨ (E9 = "java/lang/UnsupportedOperationException" ∧ Φ S9 2))
set_option maxHeartbeats 4000000 in
set_option maxRecDepth 100000 in
theorem bL_repair_b0 {p : Program} {l : Launch} {e : Env} {s : State} {m : MethodId} {args : Array Value} {below : List Frame} {meth : Method} {c : Code} {G : Gw} {x0 : Nat} {x1 : Int32} {x2 : Nat} {Φ : Hp → Int32 → Prop} (C0 : Mx p s m c cL_repair 4 args yL_repair.cls G) (Y : My meth (some .int)) (hl9 : l.stackTraces = false) (ht9 : c.exceptionTable.toList = tableOf [(0, 9, 12, 19), (0, 9, 15, 23)])  : ∀ (S : Hp) (H : Heap) (locs : List Loc) (ls : Array Slot) (cells slots : Nat), wL_repair_b0 x0 x1 x2 Φ S → Ok G S H → va_S (Ab G.b) s.heap H locs → lv_has ls 4 [(0, .ref x0), (1, .int x1), (2, .ref x2)] → cells + (2) ≤ 2 → slots + (12) ≤ 12 → W p l e rm_L_repair s m args below meth c H locs cells slots (MQ below (gQ G (PI Φ)) args s rm_L_repair.cells rm_L_repair.slots (Ab G.b)) (F0 m 0 ls []) := by
  intro S H locs ls cells slots h hO hS hl hcc hss
  unfold wL_repair_b0 at h
  refine lv_aload_n C0.1 C0.2.1 dL_repair_0 rfl (lv_at hl 2 rfl) ?_
  refine lv_iconst (v := 0) C0.1 C0.2.1 dL_repair_1 (by decide) ?_
  refine lv_aload_n C0.1 C0.2.1 dL_repair_2 rfl (lv_at hl 0 rfl) ?_
  refine lv_iload_n C0.1 C0.2.1 dL_repair_3 rfl (lv_at hl 1 rfl) ?_
  obtain ⟨i3, h⟩ := h
  refine y_V C0 hO hS (mX7_repair hl9 h) i3 (by decide) rfl rfl tb_945 tb_946 tb_947 tb_74 tb_948 hd_X7_repair rfl ⟨⟨by decide, by decide⟩, by show _ + 2 ≤ 2; omega, by show _ + 12 ≤ 12; omega⟩ hl.1 rfl (Nat.le_of_ble_eq_true rfl) dL_repair_4 (fun E9 ce9 q9 S9 H locs h hO hS hcell hv9 hcl => ?_) (kI (fun r2 S1 H locs h hO hS => ?_))
  · rcases h with ⟨rfl, h⟩ | ⟨rfl, h⟩
    · refine k_catch C0 ht9 (tableOf []) ⟨0, 9, 12, 19⟩ (tableOf [(0, 9, 15, 23)]) rfl (fun z hz => absurd hz (List.not_mem_nil)) rfl (by decide) tb_533 (by decide +kernel) hcell hv9 hcl ?_
      change W _ _ _ _ _ _ _ _ _ _ _ _ (_ + 2) (_ + 12) _ _
      refine lv_astore_n C0.1 C0.2.1 dL_repair_12 rfl hl (by decide) rfl (fun ls hl => ?_)
      refine lv_iconst (v := 1) C0.1 C0.2.1 dL_repair_13 (by decide) ?_
      exact e_I C0 Y hO hS h (by show _ ≤ 2; omega) (by show _ ≤ 12; omega) dL_repair_14
    · refine k_catch C0 ht9 (tableOf [(0, 9, 12, 19)]) ⟨0, 9, 15, 23⟩ (tableOf []) rfl (List.forall_mem_cons.mpr ⟨no_of C0 (by decide) tb_533 (by decide +kernel), (fun z hz => absurd hz (List.not_mem_nil))⟩) rfl (by decide) tb_558 (by decide +kernel) hcell hv9 hcl ?_
      change W _ _ _ _ _ _ _ _ _ _ _ _ (_ + 2) (_ + 12) _ _
      refine lv_astore_n C0.1 C0.2.1 dL_repair_15 rfl hl (by decide) rfl (fun ls hl => ?_)
      refine lv_iconst (v := 2) C0.1 C0.2.1 dL_repair_16 (by decide) ?_
      exact e_I C0 Y hO hS h (by show _ ≤ 2; omega) (by show _ ≤ 12; omega) dL_repair_17
  · change W _ _ _ _ _ _ _ _ _ _ _ _ (_ + 2) (_ + 12) _ _
    refine lv_i2l C0.1 C0.2.1 dL_repair_7 rfl ?_
    obtain ⟨i4, h⟩ := h
    obtain ⟨e5, h⟩ := h
    refine r_last C0 hO hS i4 e5 dL_repair_8 (fun H locs hO hS => ?_)
    have h := h _ rfl
    refine lv_goto (tgt := 18) C0.1 C0.2.1 dL_repair_9 (by decide) ?_
    refine lv_iconst (v := 0) C0.1 C0.2.1 dL_repair_18 (by decide) ?_
    exact e_I C0 Y hO hS h (by show _ ≤ 2; omega) (by show _ ≤ 12; omega) dL_repair_19
def wL_repair (S : Hp) (x0 : Nat) (x1 : Int32) (x2 : Nat) (Φ : Hp → Int32 → Prop) : Prop := wL_repair_b0 x0 x1 x2 Φ S
set_option maxRecDepth 100000 in
theorem mL_repair {l : Launch} {G : Gw} (hl9 : l.stackTraces = false) {S : Hp} {x0 : Nat} {x1 : Int32} {x2 : Nat} {Φ : Hp → Int32 → Prop} (h : wL_repair S x0 x1 x2 Φ) : gW l yL_repair cL_repair 4 (some .int) [(0, 9, 12, 19), (0, 9, 15, 23)] rm_L_repair [.ref x0, .int x1, .ref x2] G S (PI Φ) := by
  unfold gW
  refine va_MetW (hh := [(0, 9, 12, 19), (0, 9, 15, 23)]) (cc := cL_repair) (maxL := 4) (ret := (some .int)) (by decide) rfl ?_
  intro p e s m args below meth c s₁ B hml hv
  obtain ⟨rfl, hw⟩ := hv
  obtain ⟨C0, Y, hO, ht9⟩ := mx_ofW B hml hw
  have hS : va_S (Ab G.b) s.heap s.heap [] := va_S.rf
  have hl := lv_entry ([.ref x0, .int x1, .ref x2]) (n := 4) (Nat.le_of_ble_eq_true rfl)
  rw [lg_entry_eq]
  generalize (lg_sl ([.ref x0, .int x1, .ref x2]) ++ List.replicate (4 - (lg_sl ([.ref x0, .int x1, .ref x2])).length) Slot.unset).toArray = ls at hl ⊢
  have hl : lv_has ls 4 [(0, .ref x0), (1, .int x1), (2, .ref x2)] := hl
  exact bL_repair_b0 C0 Y hl9 ht9 S _ _ _ 0 0 h hO hS hl (by decide) (by decide)

theorem hd_L_slackOfOver : nmOk yL_slackOfOver 3 := by unfold nmOk; decide +kernel
def rm_L_slackOfOver : Room := { frames := 9, cells := 1, slots := 6, locals := 155 }
def wL_slackOfOver_b0 (x0 : Nat) (x1 : Int32) (x2 : Nat) (Φ : Hp → Int32 → Prop) (S : Hp) : Prop := isA S x0 7 ∧ wX7_slackOfOver S x0 x1 (fun S1 r2 => isA S1 x2 22 ∧ vp_in 0 (S1.N x2) ∧ ∀ S6, S6 = S1.setAJ x2 ((0 : Int32).toNatClampNeg) r2 → Φ S6 0) (fun S9 E9 => (E9 = "java/lang/IndexOutOfBoundsException" ∧ Φ S9 1))
set_option maxHeartbeats 4000000 in
set_option maxRecDepth 100000 in
theorem bL_slackOfOver_b0 {p : Program} {l : Launch} {e : Env} {s : State} {m : MethodId} {args : Array Value} {below : List Frame} {meth : Method} {c : Code} {G : Gw} {x0 : Nat} {x1 : Int32} {x2 : Nat} {Φ : Hp → Int32 → Prop} (C0 : Mx p s m c cL_slackOfOver 4 args yL_slackOfOver.cls G) (Y : My meth (some .int)) (hl9 : l.stackTraces = false) (ht9 : c.exceptionTable.toList = tableOf [(0, 8, 11, 19)])  : ∀ (S : Hp) (H : Heap) (locs : List Loc) (ls : Array Slot) (cells slots : Nat), wL_slackOfOver_b0 x0 x1 x2 Φ S → Ok G S H → va_S (Ab G.b) s.heap H locs → lv_has ls 4 [(0, .ref x0), (1, .int x1), (2, .ref x2)] → cells + (1) ≤ 1 → slots + (6) ≤ 6 → W p l e rm_L_slackOfOver s m args below meth c H locs cells slots (MQ below (gQ G (PI Φ)) args s rm_L_slackOfOver.cells rm_L_slackOfOver.slots (Ab G.b)) (F0 m 0 ls []) := by
  intro S H locs ls cells slots h hO hS hl hcc hss
  unfold wL_slackOfOver_b0 at h
  refine lv_aload_n C0.1 C0.2.1 dL_slackOfOver_0 rfl (lv_at hl 2 rfl) ?_
  refine lv_iconst (v := 0) C0.1 C0.2.1 dL_slackOfOver_1 (by decide) ?_
  refine lv_aload_n C0.1 C0.2.1 dL_slackOfOver_2 rfl (lv_at hl 0 rfl) ?_
  refine lv_iload_n C0.1 C0.2.1 dL_slackOfOver_3 rfl (lv_at hl 1 rfl) ?_
  obtain ⟨i3, h⟩ := h
  refine y_V C0 hO hS (mX7_slackOfOver hl9 h) i3 (by decide) rfl rfl tb_957 tb_958 tb_959 tb_74 tb_960 hd_X7_slackOfOver rfl ⟨⟨by decide, by decide⟩, by show _ + 1 ≤ 1; omega, by show _ + 6 ≤ 6; omega⟩ hl.1 rfl (Nat.le_of_ble_eq_true rfl) dL_slackOfOver_4 (fun E9 ce9 q9 S9 H locs h hO hS hcell hv9 hcl => ?_) (kJ (fun r2 S1 H locs h hO hS => ?_))
  · rcases h with ⟨rfl, h⟩
    · refine k_catch C0 ht9 (tableOf []) ⟨0, 8, 11, 19⟩ (tableOf []) rfl (fun z hz => absurd hz (List.not_mem_nil)) rfl (by decide) tb_533 (by decide +kernel) hcell hv9 hcl ?_
      change W _ _ _ _ _ _ _ _ _ _ _ _ (_ + 1) (_ + 6) _ _
      refine lv_astore_n C0.1 C0.2.1 dL_slackOfOver_11 rfl hl (by decide) rfl (fun ls hl => ?_)
      refine lv_iconst (v := 1) C0.1 C0.2.1 dL_slackOfOver_12 (by decide) ?_
      exact e_I C0 Y hO hS h (by show _ ≤ 1; omega) (by show _ ≤ 6; omega) dL_slackOfOver_13
  · change W _ _ _ _ _ _ _ _ _ _ _ _ (_ + 1) (_ + 6) _ _
    obtain ⟨i4, h⟩ := h
    obtain ⟨e5, h⟩ := h
    refine r_last C0 hO hS i4 e5 dL_slackOfOver_7 (fun H locs hO hS => ?_)
    have h := h _ rfl
    refine lv_goto (tgt := 14) C0.1 C0.2.1 dL_slackOfOver_8 (by decide) ?_
    refine lv_iconst (v := 0) C0.1 C0.2.1 dL_slackOfOver_14 (by decide) ?_
    exact e_I C0 Y hO hS h (by show _ ≤ 1; omega) (by show _ ≤ 6; omega) dL_slackOfOver_15
def wL_slackOfOver (S : Hp) (x0 : Nat) (x1 : Int32) (x2 : Nat) (Φ : Hp → Int32 → Prop) : Prop := wL_slackOfOver_b0 x0 x1 x2 Φ S
set_option maxRecDepth 100000 in
theorem mL_slackOfOver {l : Launch} {G : Gw} (hl9 : l.stackTraces = false) {S : Hp} {x0 : Nat} {x1 : Int32} {x2 : Nat} {Φ : Hp → Int32 → Prop} (h : wL_slackOfOver S x0 x1 x2 Φ) : gW l yL_slackOfOver cL_slackOfOver 4 (some .int) [(0, 8, 11, 19)] rm_L_slackOfOver [.ref x0, .int x1, .ref x2] G S (PI Φ) := by
  unfold gW
  refine va_MetW (hh := [(0, 8, 11, 19)]) (cc := cL_slackOfOver) (maxL := 4) (ret := (some .int)) (by decide) rfl ?_
  intro p e s m args below meth c s₁ B hml hv
  obtain ⟨rfl, hw⟩ := hv
  obtain ⟨C0, Y, hO, ht9⟩ := mx_ofW B hml hw
  have hS : va_S (Ab G.b) s.heap s.heap [] := va_S.rf
  have hl := lv_entry ([.ref x0, .int x1, .ref x2]) (n := 4) (Nat.le_of_ble_eq_true rfl)
  rw [lg_entry_eq]
  generalize (lg_sl ([.ref x0, .int x1, .ref x2]) ++ List.replicate (4 - (lg_sl ([.ref x0, .int x1, .ref x2])).length) Slot.unset).toArray = ls at hl ⊢
  have hl : lv_has ls 4 [(0, .ref x0), (1, .int x1), (2, .ref x2)] := hl
  exact bL_slackOfOver_b0 C0 Y hl9 ht9 S _ _ _ 0 0 h hO hS hl (by decide) (by decide)

theorem hd_L_slackOfUnder : nmOk yL_slackOfUnder 3 := by unfold nmOk; decide +kernel
def rm_L_slackOfUnder : Room := { frames := 9, cells := 1, slots := 6, locals := 155 }
def wL_slackOfUnder_b0 (x0 : Nat) (x1 : Int32) (x2 : Nat) (Φ : Hp → Int32 → Prop) (S : Hp) : Prop := isA S x0 7 ∧ wX7_slackOfUnder S x0 x1 (fun S1 r2 => isA S1 x2 22 ∧ vp_in 0 (S1.N x2) ∧ ∀ S6, S6 = S1.setAJ x2 ((0 : Int32).toNatClampNeg) r2 → Φ S6 0) (fun S9 E9 => (E9 = "java/lang/IndexOutOfBoundsException" ∧ Φ S9 1))
set_option maxHeartbeats 4000000 in
set_option maxRecDepth 100000 in
theorem bL_slackOfUnder_b0 {p : Program} {l : Launch} {e : Env} {s : State} {m : MethodId} {args : Array Value} {below : List Frame} {meth : Method} {c : Code} {G : Gw} {x0 : Nat} {x1 : Int32} {x2 : Nat} {Φ : Hp → Int32 → Prop} (C0 : Mx p s m c cL_slackOfUnder 4 args yL_slackOfUnder.cls G) (Y : My meth (some .int)) (hl9 : l.stackTraces = false) (ht9 : c.exceptionTable.toList = tableOf [(0, 8, 11, 19)])  : ∀ (S : Hp) (H : Heap) (locs : List Loc) (ls : Array Slot) (cells slots : Nat), wL_slackOfUnder_b0 x0 x1 x2 Φ S → Ok G S H → va_S (Ab G.b) s.heap H locs → lv_has ls 4 [(0, .ref x0), (1, .int x1), (2, .ref x2)] → cells + (1) ≤ 1 → slots + (6) ≤ 6 → W p l e rm_L_slackOfUnder s m args below meth c H locs cells slots (MQ below (gQ G (PI Φ)) args s rm_L_slackOfUnder.cells rm_L_slackOfUnder.slots (Ab G.b)) (F0 m 0 ls []) := by
  intro S H locs ls cells slots h hO hS hl hcc hss
  unfold wL_slackOfUnder_b0 at h
  refine lv_aload_n C0.1 C0.2.1 dL_slackOfUnder_0 rfl (lv_at hl 2 rfl) ?_
  refine lv_iconst (v := 0) C0.1 C0.2.1 dL_slackOfUnder_1 (by decide) ?_
  refine lv_aload_n C0.1 C0.2.1 dL_slackOfUnder_2 rfl (lv_at hl 0 rfl) ?_
  refine lv_iload_n C0.1 C0.2.1 dL_slackOfUnder_3 rfl (lv_at hl 1 rfl) ?_
  obtain ⟨i3, h⟩ := h
  refine y_V C0 hO hS (mX7_slackOfUnder hl9 h) i3 (by decide) rfl rfl tb_968 tb_969 tb_970 tb_74 tb_971 hd_X7_slackOfUnder rfl ⟨⟨by decide, by decide⟩, by show _ + 1 ≤ 1; omega, by show _ + 6 ≤ 6; omega⟩ hl.1 rfl (Nat.le_of_ble_eq_true rfl) dL_slackOfUnder_4 (fun E9 ce9 q9 S9 H locs h hO hS hcell hv9 hcl => ?_) (kJ (fun r2 S1 H locs h hO hS => ?_))
  · rcases h with ⟨rfl, h⟩
    · refine k_catch C0 ht9 (tableOf []) ⟨0, 8, 11, 19⟩ (tableOf []) rfl (fun z hz => absurd hz (List.not_mem_nil)) rfl (by decide) tb_533 (by decide +kernel) hcell hv9 hcl ?_
      change W _ _ _ _ _ _ _ _ _ _ _ _ (_ + 1) (_ + 6) _ _
      refine lv_astore_n C0.1 C0.2.1 dL_slackOfUnder_11 rfl hl (by decide) rfl (fun ls hl => ?_)
      refine lv_iconst (v := 1) C0.1 C0.2.1 dL_slackOfUnder_12 (by decide) ?_
      exact e_I C0 Y hO hS h (by show _ ≤ 1; omega) (by show _ ≤ 6; omega) dL_slackOfUnder_13
  · change W _ _ _ _ _ _ _ _ _ _ _ _ (_ + 1) (_ + 6) _ _
    obtain ⟨i4, h⟩ := h
    obtain ⟨e5, h⟩ := h
    refine r_last C0 hO hS i4 e5 dL_slackOfUnder_7 (fun H locs hO hS => ?_)
    have h := h _ rfl
    refine lv_goto (tgt := 14) C0.1 C0.2.1 dL_slackOfUnder_8 (by decide) ?_
    refine lv_iconst (v := 0) C0.1 C0.2.1 dL_slackOfUnder_14 (by decide) ?_
    exact e_I C0 Y hO hS h (by show _ ≤ 1; omega) (by show _ ≤ 6; omega) dL_slackOfUnder_15
def wL_slackOfUnder (S : Hp) (x0 : Nat) (x1 : Int32) (x2 : Nat) (Φ : Hp → Int32 → Prop) : Prop := wL_slackOfUnder_b0 x0 x1 x2 Φ S
set_option maxRecDepth 100000 in
theorem mL_slackOfUnder {l : Launch} {G : Gw} (hl9 : l.stackTraces = false) {S : Hp} {x0 : Nat} {x1 : Int32} {x2 : Nat} {Φ : Hp → Int32 → Prop} (h : wL_slackOfUnder S x0 x1 x2 Φ) : gW l yL_slackOfUnder cL_slackOfUnder 4 (some .int) [(0, 8, 11, 19)] rm_L_slackOfUnder [.ref x0, .int x1, .ref x2] G S (PI Φ) := by
  unfold gW
  refine va_MetW (hh := [(0, 8, 11, 19)]) (cc := cL_slackOfUnder) (maxL := 4) (ret := (some .int)) (by decide) rfl ?_
  intro p e s m args below meth c s₁ B hml hv
  obtain ⟨rfl, hw⟩ := hv
  obtain ⟨C0, Y, hO, ht9⟩ := mx_ofW B hml hw
  have hS : va_S (Ab G.b) s.heap s.heap [] := va_S.rf
  have hl := lv_entry ([.ref x0, .int x1, .ref x2]) (n := 4) (Nat.le_of_ble_eq_true rfl)
  rw [lg_entry_eq]
  generalize (lg_sl ([.ref x0, .int x1, .ref x2]) ++ List.replicate (4 - (lg_sl ([.ref x0, .int x1, .ref x2])).length) Slot.unset).toArray = ls at hl ⊢
  have hl : lv_has ls 4 [(0, .ref x0), (1, .int x1), (2, .ref x2)] := hl
  exact bL_slackOfUnder_b0 C0 Y hl9 ht9 S _ _ _ 0 0 h hO hS hl (by decide) (by decide)

theorem hd_L_cam : nmOk yL_cam 3 := by unfold nmOk; decide +kernel
def rm_L_cam : Room := { frames := 8, cells := 7, slots := 133, locals := 212 }
def wL_cam_b0 (x0 : Nat) (x1 : Int32) (x2 : Nat) (Φ : Hp → Int32 → Prop) (S : Hp) : Prop := isA S x0 7 ∧ wX7_cam S x0 x1 (fun S1 r2 => isA S1 x2 22 ∧ vp_in 0 (S1.N x2) ∧ ∀ S6, S6 = S1.setAJ x2 ((0 : Int32).toNatClampNeg) r2.toInt64 → Φ S6 0) (fun S9 E9 => (E9 = "java/lang/IndexOutOfBoundsException" ∧ Φ S9 1) ∨ (E9 = "java/lang/IllegalStateException" ∧ Φ S9 2))
set_option maxHeartbeats 4000000 in
set_option maxRecDepth 100000 in
theorem bL_cam_b0 {p : Program} {l : Launch} {e : Env} {s : State} {m : MethodId} {args : Array Value} {below : List Frame} {meth : Method} {c : Code} {G : Gw} {x0 : Nat} {x1 : Int32} {x2 : Nat} {Φ : Hp → Int32 → Prop} (C0 : Mx p s m c cL_cam 4 args yL_cam.cls G) (Y : My meth (some .int)) (hl9 : l.stackTraces = false) (ht9 : c.exceptionTable.toList = tableOf [(0, 9, 12, 19), (0, 9, 15, 13)])  : ∀ (S : Hp) (H : Heap) (locs : List Loc) (ls : Array Slot) (cells slots : Nat), wL_cam_b0 x0 x1 x2 Φ S → Ok G S H → va_S (Ab G.b) s.heap H locs → lv_has ls 4 [(0, .ref x0), (1, .int x1), (2, .ref x2)] → cells + (7) ≤ 7 → slots + (133) ≤ 133 → W p l e rm_L_cam s m args below meth c H locs cells slots (MQ below (gQ G (PI Φ)) args s rm_L_cam.cells rm_L_cam.slots (Ab G.b)) (F0 m 0 ls []) := by
  intro S H locs ls cells slots h hO hS hl hcc hss
  unfold wL_cam_b0 at h
  refine lv_aload_n C0.1 C0.2.1 dL_cam_0 rfl (lv_at hl 2 rfl) ?_
  refine lv_iconst (v := 0) C0.1 C0.2.1 dL_cam_1 (by decide) ?_
  refine lv_aload_n C0.1 C0.2.1 dL_cam_2 rfl (lv_at hl 0 rfl) ?_
  refine lv_iload_n C0.1 C0.2.1 dL_cam_3 rfl (lv_at hl 1 rfl) ?_
  obtain ⟨i3, h⟩ := h
  refine y_V C0 hO hS (mX7_cam hl9 h) i3 (by decide) rfl rfl tb_975 tb_976 tb_977 tb_74 tb_978 hd_X7_cam rfl ⟨⟨by decide, by decide⟩, by show _ + 7 ≤ 7; omega, by show _ + 133 ≤ 133; omega⟩ hl.1 rfl (Nat.le_of_ble_eq_true rfl) dL_cam_4 (fun E9 ce9 q9 S9 H locs h hO hS hcell hv9 hcl => ?_) (kI (fun r2 S1 H locs h hO hS => ?_))
  · rcases h with ⟨rfl, h⟩ | ⟨rfl, h⟩
    · refine k_catch C0 ht9 (tableOf []) ⟨0, 9, 12, 19⟩ (tableOf [(0, 9, 15, 13)]) rfl (fun z hz => absurd hz (List.not_mem_nil)) rfl (by decide) tb_533 (by decide +kernel) hcell hv9 hcl ?_
      change W _ _ _ _ _ _ _ _ _ _ _ _ (_ + 7) (_ + 133) _ _
      refine lv_astore_n C0.1 C0.2.1 dL_cam_12 rfl hl (by decide) rfl (fun ls hl => ?_)
      refine lv_iconst (v := 1) C0.1 C0.2.1 dL_cam_13 (by decide) ?_
      exact e_I C0 Y hO hS h (by show _ ≤ 7; omega) (by show _ ≤ 133; omega) dL_cam_14
    · refine k_catch C0 ht9 (tableOf [(0, 9, 12, 19)]) ⟨0, 9, 15, 13⟩ (tableOf []) rfl (List.forall_mem_cons.mpr ⟨no_of C0 (by decide) tb_533 (by decide +kernel), (fun z hz => absurd hz (List.not_mem_nil))⟩) rfl (by decide) tb_453 (by decide +kernel) hcell hv9 hcl ?_
      change W _ _ _ _ _ _ _ _ _ _ _ _ (_ + 7) (_ + 133) _ _
      refine lv_astore_n C0.1 C0.2.1 dL_cam_15 rfl hl (by decide) rfl (fun ls hl => ?_)
      refine lv_iconst (v := 2) C0.1 C0.2.1 dL_cam_16 (by decide) ?_
      exact e_I C0 Y hO hS h (by show _ ≤ 7; omega) (by show _ ≤ 133; omega) dL_cam_17
  · change W _ _ _ _ _ _ _ _ _ _ _ _ (_ + 7) (_ + 133) _ _
    refine lv_i2l C0.1 C0.2.1 dL_cam_7 rfl ?_
    obtain ⟨i4, h⟩ := h
    obtain ⟨e5, h⟩ := h
    refine r_last C0 hO hS i4 e5 dL_cam_8 (fun H locs hO hS => ?_)
    have h := h _ rfl
    refine lv_goto (tgt := 18) C0.1 C0.2.1 dL_cam_9 (by decide) ?_
    refine lv_iconst (v := 0) C0.1 C0.2.1 dL_cam_18 (by decide) ?_
    exact e_I C0 Y hO hS h (by show _ ≤ 7; omega) (by show _ ≤ 133; omega) dL_cam_19
def wL_cam (S : Hp) (x0 : Nat) (x1 : Int32) (x2 : Nat) (Φ : Hp → Int32 → Prop) : Prop := wL_cam_b0 x0 x1 x2 Φ S
set_option maxRecDepth 100000 in
theorem mL_cam {l : Launch} {G : Gw} (hl9 : l.stackTraces = false) {S : Hp} {x0 : Nat} {x1 : Int32} {x2 : Nat} {Φ : Hp → Int32 → Prop} (h : wL_cam S x0 x1 x2 Φ) : gW l yL_cam cL_cam 4 (some .int) [(0, 9, 12, 19), (0, 9, 15, 13)] rm_L_cam [.ref x0, .int x1, .ref x2] G S (PI Φ) := by
  unfold gW
  refine va_MetW (hh := [(0, 9, 12, 19), (0, 9, 15, 13)]) (cc := cL_cam) (maxL := 4) (ret := (some .int)) (by decide) rfl ?_
  intro p e s m args below meth c s₁ B hml hv
  obtain ⟨rfl, hw⟩ := hv
  obtain ⟨C0, Y, hO, ht9⟩ := mx_ofW B hml hw
  have hS : va_S (Ab G.b) s.heap s.heap [] := va_S.rf
  have hl := lv_entry ([.ref x0, .int x1, .ref x2]) (n := 4) (Nat.le_of_ble_eq_true rfl)
  rw [lg_entry_eq]
  generalize (lg_sl ([.ref x0, .int x1, .ref x2]) ++ List.replicate (4 - (lg_sl ([.ref x0, .int x1, .ref x2])).length) Slot.unset).toArray = ls at hl ⊢
  have hl : lv_has ls 4 [(0, .ref x0), (1, .int x1), (2, .ref x2)] := hl
  exact bL_cam_b0 C0 Y hl9 ht9 S _ _ _ 0 0 h hO hS hl (by decide) (by decide)

theorem hd_L_segment : nmOk yL_segment 6 := by unfold nmOk; decide +kernel
def rm_L_segment : Room := { frames := 8, cells := 5, slots := 30, locals := 137 }
def wL_segment_b0 (x0 : Nat) (x1 : Int32) (x2 : Int32) (x3 : Int32) (x4 : Int32) (x5 : Nat) (Φ : Hp → Int32 → Prop) (S : Hp) : Prop := isA S x0 7 ∧ wX7_segment S x0 x1 x2 x3 x4 (fun S1 r2 => isA S1 x5 22 ∧ vp_in 0 (S1.N x5) ∧ ∀ S6, S6 = S1.setAJ x5 ((0 : Int32).toNatClampNeg) r2.toInt64 → Φ S6 0) (fun S9 E9 => (E9 = "java/lang/IndexOutOfBoundsException" ∧ Φ S9 1) ∨ (E9 = "java/lang/IllegalArgumentException" ∧ Φ S9 2) ∨ (E9 = "java/lang/UnsupportedOperationException" ∧ Φ S9 3))
set_option maxHeartbeats 4000000 in
set_option maxRecDepth 100000 in
theorem bL_segment_b0 {p : Program} {l : Launch} {e : Env} {s : State} {m : MethodId} {args : Array Value} {below : List Frame} {meth : Method} {c : Code} {G : Gw} {x0 : Nat} {x1 : Int32} {x2 : Int32} {x3 : Int32} {x4 : Int32} {x5 : Nat} {Φ : Hp → Int32 → Prop} (C0 : Mx p s m c cL_segment 7 args yL_segment.cls G) (Y : My meth (some .int)) (hl9 : l.stackTraces = false) (ht9 : c.exceptionTable.toList = tableOf [(0, 14, 17, 19), (0, 14, 21, 21), (0, 14, 25, 23)])  : ∀ (S : Hp) (H : Heap) (locs : List Loc) (ls : Array Slot) (cells slots : Nat), wL_segment_b0 x0 x1 x2 x3 x4 x5 Φ S → Ok G S H → va_S (Ab G.b) s.heap H locs → lv_has ls 7 [(0, .ref x0), (1, .int x1), (2, .int x2), (3, .int x3), (4, .int x4), (5, .ref x5)] → cells + (5) ≤ 5 → slots + (30) ≤ 30 → W p l e rm_L_segment s m args below meth c H locs cells slots (MQ below (gQ G (PI Φ)) args s rm_L_segment.cells rm_L_segment.slots (Ab G.b)) (F0 m 0 ls []) := by
  intro S H locs ls cells slots h hO hS hl hcc hss
  unfold wL_segment_b0 at h
  refine lv_aload C0.1 C0.2.1 dL_segment_0 (lv_at hl 5 rfl) ?_
  refine lv_iconst (v := 0) C0.1 C0.2.1 dL_segment_2 (by decide) ?_
  refine lv_aload_n C0.1 C0.2.1 dL_segment_3 rfl (lv_at hl 0 rfl) ?_
  refine lv_iload_n C0.1 C0.2.1 dL_segment_4 rfl (lv_at hl 1 rfl) ?_
  refine lv_iload_n C0.1 C0.2.1 dL_segment_5 rfl (lv_at hl 2 rfl) ?_
  refine lv_iload_n C0.1 C0.2.1 dL_segment_6 rfl (lv_at hl 3 rfl) ?_
  refine lv_iload C0.1 C0.2.1 dL_segment_7 (lv_at hl 4 rfl) ?_
  obtain ⟨i3, h⟩ := h
  refine y_V C0 hO hS (mX7_segment hl9 h) i3 (by decide) rfl rfl tb_1015 tb_1016 tb_1017 tb_74 tb_1018 hd_X7_segment rfl ⟨⟨by decide, by decide⟩, by show _ + 5 ≤ 5; omega, by show _ + 30 ≤ 30; omega⟩ hl.1 rfl (Nat.le_of_ble_eq_true rfl) dL_segment_9 (fun E9 ce9 q9 S9 H locs h hO hS hcell hv9 hcl => ?_) (kI (fun r2 S1 H locs h hO hS => ?_))
  · rcases h with ⟨rfl, h⟩ | ⟨rfl, h⟩ | ⟨rfl, h⟩
    · refine k_catch C0 ht9 (tableOf []) ⟨0, 14, 17, 19⟩ (tableOf [(0, 14, 21, 21), (0, 14, 25, 23)]) rfl (fun z hz => absurd hz (List.not_mem_nil)) rfl (by decide) tb_533 (by decide +kernel) hcell hv9 hcl ?_
      change W _ _ _ _ _ _ _ _ _ _ _ _ (_ + 5) (_ + 30) _ _
      refine lv_astore C0.1 C0.2.1 dL_segment_17 hl (by decide) rfl (fun ls hl => ?_)
      refine lv_iconst (v := 1) C0.1 C0.2.1 dL_segment_19 (by decide) ?_
      exact e_I C0 Y hO hS h (by show _ ≤ 5; omega) (by show _ ≤ 30; omega) dL_segment_20
    · refine k_catch C0 ht9 (tableOf [(0, 14, 17, 19)]) ⟨0, 14, 21, 21⟩ (tableOf [(0, 14, 25, 23)]) rfl (List.forall_mem_cons.mpr ⟨no_of C0 (by decide) tb_533 (by decide +kernel), (fun z hz => absurd hz (List.not_mem_nil))⟩) rfl (by decide) tb_557 (by decide +kernel) hcell hv9 hcl ?_
      change W _ _ _ _ _ _ _ _ _ _ _ _ (_ + 5) (_ + 30) _ _
      refine lv_astore C0.1 C0.2.1 dL_segment_21 hl (by decide) rfl (fun ls hl => ?_)
      refine lv_iconst (v := 2) C0.1 C0.2.1 dL_segment_23 (by decide) ?_
      exact e_I C0 Y hO hS h (by show _ ≤ 5; omega) (by show _ ≤ 30; omega) dL_segment_24
    · refine k_catch C0 ht9 (tableOf [(0, 14, 17, 19), (0, 14, 21, 21)]) ⟨0, 14, 25, 23⟩ (tableOf []) rfl (List.forall_mem_cons.mpr ⟨no_of C0 (by decide) tb_533 (by decide +kernel), (List.forall_mem_cons.mpr ⟨no_of C0 (by decide) tb_557 (by decide +kernel), (fun z hz => absurd hz (List.not_mem_nil))⟩)⟩) rfl (by decide) tb_558 (by decide +kernel) hcell hv9 hcl ?_
      change W _ _ _ _ _ _ _ _ _ _ _ _ (_ + 5) (_ + 30) _ _
      refine lv_astore C0.1 C0.2.1 dL_segment_25 hl (by decide) rfl (fun ls hl => ?_)
      refine lv_iconst (v := 3) C0.1 C0.2.1 dL_segment_27 (by decide) ?_
      exact e_I C0 Y hO hS h (by show _ ≤ 5; omega) (by show _ ≤ 30; omega) dL_segment_28
  · change W _ _ _ _ _ _ _ _ _ _ _ _ (_ + 5) (_ + 30) _ _
    refine lv_i2l C0.1 C0.2.1 dL_segment_12 rfl ?_
    obtain ⟨i4, h⟩ := h
    obtain ⟨e5, h⟩ := h
    refine r_last C0 hO hS i4 e5 dL_segment_13 (fun H locs hO hS => ?_)
    have h := h _ rfl
    refine lv_goto (tgt := 29) C0.1 C0.2.1 dL_segment_14 (by decide) ?_
    refine lv_iconst (v := 0) C0.1 C0.2.1 dL_segment_29 (by decide) ?_
    exact e_I C0 Y hO hS h (by show _ ≤ 5; omega) (by show _ ≤ 30; omega) dL_segment_30
def wL_segment (S : Hp) (x0 : Nat) (x1 : Int32) (x2 : Int32) (x3 : Int32) (x4 : Int32) (x5 : Nat) (Φ : Hp → Int32 → Prop) : Prop := wL_segment_b0 x0 x1 x2 x3 x4 x5 Φ S
set_option maxRecDepth 100000 in
theorem mL_segment {l : Launch} {G : Gw} (hl9 : l.stackTraces = false) {S : Hp} {x0 : Nat} {x1 : Int32} {x2 : Int32} {x3 : Int32} {x4 : Int32} {x5 : Nat} {Φ : Hp → Int32 → Prop} (h : wL_segment S x0 x1 x2 x3 x4 x5 Φ) : gW l yL_segment cL_segment 7 (some .int) [(0, 14, 17, 19), (0, 14, 21, 21), (0, 14, 25, 23)] rm_L_segment [.ref x0, .int x1, .int x2, .int x3, .int x4, .ref x5] G S (PI Φ) := by
  unfold gW
  refine va_MetW (hh := [(0, 14, 17, 19), (0, 14, 21, 21), (0, 14, 25, 23)]) (cc := cL_segment) (maxL := 7) (ret := (some .int)) (by decide) rfl ?_
  intro p e s m args below meth c s₁ B hml hv
  obtain ⟨rfl, hw⟩ := hv
  obtain ⟨C0, Y, hO, ht9⟩ := mx_ofW B hml hw
  have hS : va_S (Ab G.b) s.heap s.heap [] := va_S.rf
  have hl := lv_entry ([.ref x0, .int x1, .int x2, .int x3, .int x4, .ref x5]) (n := 7) (Nat.le_of_ble_eq_true rfl)
  rw [lg_entry_eq]
  generalize (lg_sl ([.ref x0, .int x1, .int x2, .int x3, .int x4, .ref x5]) ++ List.replicate (7 - (lg_sl ([.ref x0, .int x1, .int x2, .int x3, .int x4, .ref x5])).length) Slot.unset).toArray = ls at hl ⊢
  have hl : lv_has ls 7 [(0, .ref x0), (1, .int x1), (2, .int x2), (3, .int x3), (4, .int x4), (5, .ref x5)] := hl
  exact bL_segment_b0 C0 Y hl9 ht9 S _ _ _ 0 0 h hO hS hl (by decide) (by decide)

theorem hd_L_clear : nmOk yL_clear 3 := by unfold nmOk; decide +kernel
def rm_L_clear : Room := { frames := 8, cells := 1, slots := 6, locals := 134 }
def wL_clear_b0 (x0 : Nat) (x1 : Int32) (x2 : Nat) (Φ : Hp → Int32 → Prop) (S : Hp) : Prop := isA S x0 7 ∧ wX7_clear S x0 x1 (fun S1 r2 => isA S1 x2 22 ∧ vp_in 0 (S1.N x2) ∧ ∀ S6, S6 = S1.setAJ x2 ((0 : Int32).toNatClampNeg) r2.toInt64 → Φ S6 0) (fun S9 E9 => (E9 = "java/lang/IndexOutOfBoundsException" ∧ Φ S9 1))
set_option maxHeartbeats 4000000 in
set_option maxRecDepth 100000 in
theorem bL_clear_b0 {p : Program} {l : Launch} {e : Env} {s : State} {m : MethodId} {args : Array Value} {below : List Frame} {meth : Method} {c : Code} {G : Gw} {x0 : Nat} {x1 : Int32} {x2 : Nat} {Φ : Hp → Int32 → Prop} (C0 : Mx p s m c cL_clear 4 args yL_clear.cls G) (Y : My meth (some .int)) (hl9 : l.stackTraces = false) (ht9 : c.exceptionTable.toList = tableOf [(0, 9, 12, 19)])  : ∀ (S : Hp) (H : Heap) (locs : List Loc) (ls : Array Slot) (cells slots : Nat), wL_clear_b0 x0 x1 x2 Φ S → Ok G S H → va_S (Ab G.b) s.heap H locs → lv_has ls 4 [(0, .ref x0), (1, .int x1), (2, .ref x2)] → cells + (1) ≤ 1 → slots + (6) ≤ 6 → W p l e rm_L_clear s m args below meth c H locs cells slots (MQ below (gQ G (PI Φ)) args s rm_L_clear.cells rm_L_clear.slots (Ab G.b)) (F0 m 0 ls []) := by
  intro S H locs ls cells slots h hO hS hl hcc hss
  unfold wL_clear_b0 at h
  refine lv_aload_n C0.1 C0.2.1 dL_clear_0 rfl (lv_at hl 2 rfl) ?_
  refine lv_iconst (v := 0) C0.1 C0.2.1 dL_clear_1 (by decide) ?_
  refine lv_aload_n C0.1 C0.2.1 dL_clear_2 rfl (lv_at hl 0 rfl) ?_
  refine lv_iload_n C0.1 C0.2.1 dL_clear_3 rfl (lv_at hl 1 rfl) ?_
  obtain ⟨i3, h⟩ := h
  refine y_V C0 hO hS (mX7_clear hl9 h) i3 (by decide) rfl rfl tb_1036 tb_1037 tb_1038 tb_74 tb_1039 hd_X7_clear rfl ⟨⟨by decide, by decide⟩, by show _ + 1 ≤ 1; omega, by show _ + 6 ≤ 6; omega⟩ hl.1 rfl (Nat.le_of_ble_eq_true rfl) dL_clear_4 (fun E9 ce9 q9 S9 H locs h hO hS hcell hv9 hcl => ?_) (kI (fun r2 S1 H locs h hO hS => ?_))
  · rcases h with ⟨rfl, h⟩
    · refine k_catch C0 ht9 (tableOf []) ⟨0, 9, 12, 19⟩ (tableOf []) rfl (fun z hz => absurd hz (List.not_mem_nil)) rfl (by decide) tb_533 (by decide +kernel) hcell hv9 hcl ?_
      change W _ _ _ _ _ _ _ _ _ _ _ _ (_ + 1) (_ + 6) _ _
      refine lv_astore_n C0.1 C0.2.1 dL_clear_12 rfl hl (by decide) rfl (fun ls hl => ?_)
      refine lv_iconst (v := 1) C0.1 C0.2.1 dL_clear_13 (by decide) ?_
      exact e_I C0 Y hO hS h (by show _ ≤ 1; omega) (by show _ ≤ 6; omega) dL_clear_14
  · change W _ _ _ _ _ _ _ _ _ _ _ _ (_ + 1) (_ + 6) _ _
    refine lv_i2l C0.1 C0.2.1 dL_clear_7 rfl ?_
    obtain ⟨i4, h⟩ := h
    obtain ⟨e5, h⟩ := h
    refine r_last C0 hO hS i4 e5 dL_clear_8 (fun H locs hO hS => ?_)
    have h := h _ rfl
    refine lv_goto (tgt := 15) C0.1 C0.2.1 dL_clear_9 (by decide) ?_
    refine lv_iconst (v := 0) C0.1 C0.2.1 dL_clear_15 (by decide) ?_
    exact e_I C0 Y hO hS h (by show _ ≤ 1; omega) (by show _ ≤ 6; omega) dL_clear_16
def wL_clear (S : Hp) (x0 : Nat) (x1 : Int32) (x2 : Nat) (Φ : Hp → Int32 → Prop) : Prop := wL_clear_b0 x0 x1 x2 Φ S
set_option maxRecDepth 100000 in
theorem mL_clear {l : Launch} {G : Gw} (hl9 : l.stackTraces = false) {S : Hp} {x0 : Nat} {x1 : Int32} {x2 : Nat} {Φ : Hp → Int32 → Prop} (h : wL_clear S x0 x1 x2 Φ) : gW l yL_clear cL_clear 4 (some .int) [(0, 9, 12, 19)] rm_L_clear [.ref x0, .int x1, .ref x2] G S (PI Φ) := by
  unfold gW
  refine va_MetW (hh := [(0, 9, 12, 19)]) (cc := cL_clear) (maxL := 4) (ret := (some .int)) (by decide) rfl ?_
  intro p e s m args below meth c s₁ B hml hv
  obtain ⟨rfl, hw⟩ := hv
  obtain ⟨C0, Y, hO, ht9⟩ := mx_ofW B hml hw
  have hS : va_S (Ab G.b) s.heap s.heap [] := va_S.rf
  have hl := lv_entry ([.ref x0, .int x1, .ref x2]) (n := 4) (Nat.le_of_ble_eq_true rfl)
  rw [lg_entry_eq]
  generalize (lg_sl ([.ref x0, .int x1, .ref x2]) ++ List.replicate (4 - (lg_sl ([.ref x0, .int x1, .ref x2])).length) Slot.unset).toArray = ls at hl ⊢
  have hl : lv_has ls 4 [(0, .ref x0), (1, .int x1), (2, .ref x2)] := hl
  exact bL_clear_b0 C0 Y hl9 ht9 S _ _ _ 0 0 h hO hS hl (by decide) (by decide)

theorem hd_L_heightOver : nmOk yL_heightOver 3 := by unfold nmOk; decide +kernel
def rm_L_heightOver : Room := { frames := 9, cells := 3, slots := 14, locals := 155 }
def wL_heightOver_b0 (x0 : Nat) (x1 : Int32) (x2 : Nat) (Φ : Hp → Int32 → Prop) (S : Hp) : Prop := isA S x0 7 ∧ wX7_heightOver S x0 x1 (fun S1 r2 => isA S1 x2 22 ∧ vp_in 0 (S1.N x2) ∧ ∀ S6, S6 = S1.setAJ x2 ((0 : Int32).toNatClampNeg) r2 → Φ S6 0) (fun S9 E9 => (E9 = "java/lang/IndexOutOfBoundsException" ∧ Φ S9 1) ∨ (E9 = "java/lang/UnsupportedOperationException" ∧ Φ S9 2))
set_option maxHeartbeats 4000000 in
set_option maxRecDepth 100000 in
theorem bL_heightOver_b0 {p : Program} {l : Launch} {e : Env} {s : State} {m : MethodId} {args : Array Value} {below : List Frame} {meth : Method} {c : Code} {G : Gw} {x0 : Nat} {x1 : Int32} {x2 : Nat} {Φ : Hp → Int32 → Prop} (C0 : Mx p s m c cL_heightOver 4 args yL_heightOver.cls G) (Y : My meth (some .int)) (hl9 : l.stackTraces = false) (ht9 : c.exceptionTable.toList = tableOf [(0, 8, 11, 19), (0, 8, 14, 23)])  : ∀ (S : Hp) (H : Heap) (locs : List Loc) (ls : Array Slot) (cells slots : Nat), wL_heightOver_b0 x0 x1 x2 Φ S → Ok G S H → va_S (Ab G.b) s.heap H locs → lv_has ls 4 [(0, .ref x0), (1, .int x1), (2, .ref x2)] → cells + (3) ≤ 3 → slots + (14) ≤ 14 → W p l e rm_L_heightOver s m args below meth c H locs cells slots (MQ below (gQ G (PI Φ)) args s rm_L_heightOver.cells rm_L_heightOver.slots (Ab G.b)) (F0 m 0 ls []) := by
  intro S H locs ls cells slots h hO hS hl hcc hss
  unfold wL_heightOver_b0 at h
  refine lv_aload_n C0.1 C0.2.1 dL_heightOver_0 rfl (lv_at hl 2 rfl) ?_
  refine lv_iconst (v := 0) C0.1 C0.2.1 dL_heightOver_1 (by decide) ?_
  refine lv_aload_n C0.1 C0.2.1 dL_heightOver_2 rfl (lv_at hl 0 rfl) ?_
  refine lv_iload_n C0.1 C0.2.1 dL_heightOver_3 rfl (lv_at hl 1 rfl) ?_
  obtain ⟨i3, h⟩ := h
  refine y_V C0 hO hS (mX7_heightOver hl9 h) i3 (by decide) rfl rfl tb_1047 tb_1048 tb_1049 tb_74 tb_1050 hd_X7_heightOver rfl ⟨⟨by decide, by decide⟩, by show _ + 3 ≤ 3; omega, by show _ + 14 ≤ 14; omega⟩ hl.1 rfl (Nat.le_of_ble_eq_true rfl) dL_heightOver_4 (fun E9 ce9 q9 S9 H locs h hO hS hcell hv9 hcl => ?_) (kJ (fun r2 S1 H locs h hO hS => ?_))
  · rcases h with ⟨rfl, h⟩ | ⟨rfl, h⟩
    · refine k_catch C0 ht9 (tableOf []) ⟨0, 8, 11, 19⟩ (tableOf [(0, 8, 14, 23)]) rfl (fun z hz => absurd hz (List.not_mem_nil)) rfl (by decide) tb_533 (by decide +kernel) hcell hv9 hcl ?_
      change W _ _ _ _ _ _ _ _ _ _ _ _ (_ + 3) (_ + 14) _ _
      refine lv_astore_n C0.1 C0.2.1 dL_heightOver_11 rfl hl (by decide) rfl (fun ls hl => ?_)
      refine lv_iconst (v := 1) C0.1 C0.2.1 dL_heightOver_12 (by decide) ?_
      exact e_I C0 Y hO hS h (by show _ ≤ 3; omega) (by show _ ≤ 14; omega) dL_heightOver_13
    · refine k_catch C0 ht9 (tableOf [(0, 8, 11, 19)]) ⟨0, 8, 14, 23⟩ (tableOf []) rfl (List.forall_mem_cons.mpr ⟨no_of C0 (by decide) tb_533 (by decide +kernel), (fun z hz => absurd hz (List.not_mem_nil))⟩) rfl (by decide) tb_558 (by decide +kernel) hcell hv9 hcl ?_
      change W _ _ _ _ _ _ _ _ _ _ _ _ (_ + 3) (_ + 14) _ _
      refine lv_astore_n C0.1 C0.2.1 dL_heightOver_14 rfl hl (by decide) rfl (fun ls hl => ?_)
      refine lv_iconst (v := 2) C0.1 C0.2.1 dL_heightOver_15 (by decide) ?_
      exact e_I C0 Y hO hS h (by show _ ≤ 3; omega) (by show _ ≤ 14; omega) dL_heightOver_16
  · change W _ _ _ _ _ _ _ _ _ _ _ _ (_ + 3) (_ + 14) _ _
    obtain ⟨i4, h⟩ := h
    obtain ⟨e5, h⟩ := h
    refine r_last C0 hO hS i4 e5 dL_heightOver_7 (fun H locs hO hS => ?_)
    have h := h _ rfl
    refine lv_goto (tgt := 17) C0.1 C0.2.1 dL_heightOver_8 (by decide) ?_
    refine lv_iconst (v := 0) C0.1 C0.2.1 dL_heightOver_17 (by decide) ?_
    exact e_I C0 Y hO hS h (by show _ ≤ 3; omega) (by show _ ≤ 14; omega) dL_heightOver_18
def wL_heightOver (S : Hp) (x0 : Nat) (x1 : Int32) (x2 : Nat) (Φ : Hp → Int32 → Prop) : Prop := wL_heightOver_b0 x0 x1 x2 Φ S
set_option maxRecDepth 100000 in
theorem mL_heightOver {l : Launch} {G : Gw} (hl9 : l.stackTraces = false) {S : Hp} {x0 : Nat} {x1 : Int32} {x2 : Nat} {Φ : Hp → Int32 → Prop} (h : wL_heightOver S x0 x1 x2 Φ) : gW l yL_heightOver cL_heightOver 4 (some .int) [(0, 8, 11, 19), (0, 8, 14, 23)] rm_L_heightOver [.ref x0, .int x1, .ref x2] G S (PI Φ) := by
  unfold gW
  refine va_MetW (hh := [(0, 8, 11, 19), (0, 8, 14, 23)]) (cc := cL_heightOver) (maxL := 4) (ret := (some .int)) (by decide) rfl ?_
  intro p e s m args below meth c s₁ B hml hv
  obtain ⟨rfl, hw⟩ := hv
  obtain ⟨C0, Y, hO, ht9⟩ := mx_ofW B hml hw
  have hS : va_S (Ab G.b) s.heap s.heap [] := va_S.rf
  have hl := lv_entry ([.ref x0, .int x1, .ref x2]) (n := 4) (Nat.le_of_ble_eq_true rfl)
  rw [lg_entry_eq]
  generalize (lg_sl ([.ref x0, .int x1, .ref x2]) ++ List.replicate (4 - (lg_sl ([.ref x0, .int x1, .ref x2])).length) Slot.unset).toArray = ls at hl ⊢
  have hl : lv_has ls 4 [(0, .ref x0), (1, .int x1), (2, .ref x2)] := hl
  exact bL_heightOver_b0 C0 Y hl9 ht9 S _ _ _ 0 0 h hO hS hl (by decide) (by decide)

theorem hd_L_heightUnder : nmOk yL_heightUnder 3 := by unfold nmOk; decide +kernel
def rm_L_heightUnder : Room := { frames := 9, cells := 3, slots := 14, locals := 155 }
def wL_heightUnder_b0 (x0 : Nat) (x1 : Int32) (x2 : Nat) (Φ : Hp → Int32 → Prop) (S : Hp) : Prop := isA S x0 7 ∧ wX7_heightUnder S x0 x1 (fun S1 r2 => isA S1 x2 22 ∧ vp_in 0 (S1.N x2) ∧ ∀ S6, S6 = S1.setAJ x2 ((0 : Int32).toNatClampNeg) r2 → Φ S6 0) (fun S9 E9 => (E9 = "java/lang/IndexOutOfBoundsException" ∧ Φ S9 1) ∨ (E9 = "java/lang/UnsupportedOperationException" ∧ Φ S9 2))
set_option maxHeartbeats 4000000 in
set_option maxRecDepth 100000 in
theorem bL_heightUnder_b0 {p : Program} {l : Launch} {e : Env} {s : State} {m : MethodId} {args : Array Value} {below : List Frame} {meth : Method} {c : Code} {G : Gw} {x0 : Nat} {x1 : Int32} {x2 : Nat} {Φ : Hp → Int32 → Prop} (C0 : Mx p s m c cL_heightUnder 4 args yL_heightUnder.cls G) (Y : My meth (some .int)) (hl9 : l.stackTraces = false) (ht9 : c.exceptionTable.toList = tableOf [(0, 8, 11, 19), (0, 8, 14, 23)])  : ∀ (S : Hp) (H : Heap) (locs : List Loc) (ls : Array Slot) (cells slots : Nat), wL_heightUnder_b0 x0 x1 x2 Φ S → Ok G S H → va_S (Ab G.b) s.heap H locs → lv_has ls 4 [(0, .ref x0), (1, .int x1), (2, .ref x2)] → cells + (3) ≤ 3 → slots + (14) ≤ 14 → W p l e rm_L_heightUnder s m args below meth c H locs cells slots (MQ below (gQ G (PI Φ)) args s rm_L_heightUnder.cells rm_L_heightUnder.slots (Ab G.b)) (F0 m 0 ls []) := by
  intro S H locs ls cells slots h hO hS hl hcc hss
  unfold wL_heightUnder_b0 at h
  refine lv_aload_n C0.1 C0.2.1 dL_heightUnder_0 rfl (lv_at hl 2 rfl) ?_
  refine lv_iconst (v := 0) C0.1 C0.2.1 dL_heightUnder_1 (by decide) ?_
  refine lv_aload_n C0.1 C0.2.1 dL_heightUnder_2 rfl (lv_at hl 0 rfl) ?_
  refine lv_iload_n C0.1 C0.2.1 dL_heightUnder_3 rfl (lv_at hl 1 rfl) ?_
  obtain ⟨i3, h⟩ := h
  refine y_V C0 hO hS (mX7_heightUnder hl9 h) i3 (by decide) rfl rfl tb_1064 tb_1065 tb_1066 tb_74 tb_1067 hd_X7_heightUnder rfl ⟨⟨by decide, by decide⟩, by show _ + 3 ≤ 3; omega, by show _ + 14 ≤ 14; omega⟩ hl.1 rfl (Nat.le_of_ble_eq_true rfl) dL_heightUnder_4 (fun E9 ce9 q9 S9 H locs h hO hS hcell hv9 hcl => ?_) (kJ (fun r2 S1 H locs h hO hS => ?_))
  · rcases h with ⟨rfl, h⟩ | ⟨rfl, h⟩
    · refine k_catch C0 ht9 (tableOf []) ⟨0, 8, 11, 19⟩ (tableOf [(0, 8, 14, 23)]) rfl (fun z hz => absurd hz (List.not_mem_nil)) rfl (by decide) tb_533 (by decide +kernel) hcell hv9 hcl ?_
      change W _ _ _ _ _ _ _ _ _ _ _ _ (_ + 3) (_ + 14) _ _
      refine lv_astore_n C0.1 C0.2.1 dL_heightUnder_11 rfl hl (by decide) rfl (fun ls hl => ?_)
      refine lv_iconst (v := 1) C0.1 C0.2.1 dL_heightUnder_12 (by decide) ?_
      exact e_I C0 Y hO hS h (by show _ ≤ 3; omega) (by show _ ≤ 14; omega) dL_heightUnder_13
    · refine k_catch C0 ht9 (tableOf [(0, 8, 11, 19)]) ⟨0, 8, 14, 23⟩ (tableOf []) rfl (List.forall_mem_cons.mpr ⟨no_of C0 (by decide) tb_533 (by decide +kernel), (fun z hz => absurd hz (List.not_mem_nil))⟩) rfl (by decide) tb_558 (by decide +kernel) hcell hv9 hcl ?_
      change W _ _ _ _ _ _ _ _ _ _ _ _ (_ + 3) (_ + 14) _ _
      refine lv_astore_n C0.1 C0.2.1 dL_heightUnder_14 rfl hl (by decide) rfl (fun ls hl => ?_)
      refine lv_iconst (v := 2) C0.1 C0.2.1 dL_heightUnder_15 (by decide) ?_
      exact e_I C0 Y hO hS h (by show _ ≤ 3; omega) (by show _ ≤ 14; omega) dL_heightUnder_16
  · change W _ _ _ _ _ _ _ _ _ _ _ _ (_ + 3) (_ + 14) _ _
    obtain ⟨i4, h⟩ := h
    obtain ⟨e5, h⟩ := h
    refine r_last C0 hO hS i4 e5 dL_heightUnder_7 (fun H locs hO hS => ?_)
    have h := h _ rfl
    refine lv_goto (tgt := 17) C0.1 C0.2.1 dL_heightUnder_8 (by decide) ?_
    refine lv_iconst (v := 0) C0.1 C0.2.1 dL_heightUnder_17 (by decide) ?_
    exact e_I C0 Y hO hS h (by show _ ≤ 3; omega) (by show _ ≤ 14; omega) dL_heightUnder_18
def wL_heightUnder (S : Hp) (x0 : Nat) (x1 : Int32) (x2 : Nat) (Φ : Hp → Int32 → Prop) : Prop := wL_heightUnder_b0 x0 x1 x2 Φ S
set_option maxRecDepth 100000 in
theorem mL_heightUnder {l : Launch} {G : Gw} (hl9 : l.stackTraces = false) {S : Hp} {x0 : Nat} {x1 : Int32} {x2 : Nat} {Φ : Hp → Int32 → Prop} (h : wL_heightUnder S x0 x1 x2 Φ) : gW l yL_heightUnder cL_heightUnder 4 (some .int) [(0, 8, 11, 19), (0, 8, 14, 23)] rm_L_heightUnder [.ref x0, .int x1, .ref x2] G S (PI Φ) := by
  unfold gW
  refine va_MetW (hh := [(0, 8, 11, 19), (0, 8, 14, 23)]) (cc := cL_heightUnder) (maxL := 4) (ret := (some .int)) (by decide) rfl ?_
  intro p e s m args below meth c s₁ B hml hv
  obtain ⟨rfl, hw⟩ := hv
  obtain ⟨C0, Y, hO, ht9⟩ := mx_ofW B hml hw
  have hS : va_S (Ab G.b) s.heap s.heap [] := va_S.rf
  have hl := lv_entry ([.ref x0, .int x1, .ref x2]) (n := 4) (Nat.le_of_ble_eq_true rfl)
  rw [lg_entry_eq]
  generalize (lg_sl ([.ref x0, .int x1, .ref x2]) ++ List.replicate (4 - (lg_sl ([.ref x0, .int x1, .ref x2])).length) Slot.unset).toArray = ls at hl ⊢
  have hl : lv_has ls 4 [(0, .ref x0), (1, .int x1), (2, .ref x2)] := hl
  exact bL_heightUnder_b0 C0 Y hl9 ht9 S _ _ _ 0 0 h hO hS hl (by decide) (by decide)

theorem hd_L_steepOver : nmOk yL_steepOver 3 := by unfold nmOk; decide +kernel
def rm_L_steepOver : Room := { frames := 9, cells := 3, slots := 14, locals := 154 }
def wL_steepOver_b0 (x0 : Nat) (x1 : Int32) (x2 : Nat) (Φ : Hp → Int32 → Prop) (S : Hp) : Prop := isA S x0 7 ∧ wX7_steepOver S x0 x1 (fun S1 r2 => isA S1 x2 22 ∧ vp_in 0 (S1.N x2) ∧ ∀ S6, S6 = S1.setAJ x2 ((0 : Int32).toNatClampNeg) r2 → Φ S6 0) (fun S9 E9 => (E9 = "java/lang/IndexOutOfBoundsException" ∧ Φ S9 1) ∨ (E9 = "java/lang/UnsupportedOperationException" ∧ Φ S9 2))
set_option maxHeartbeats 4000000 in
set_option maxRecDepth 100000 in
theorem bL_steepOver_b0 {p : Program} {l : Launch} {e : Env} {s : State} {m : MethodId} {args : Array Value} {below : List Frame} {meth : Method} {c : Code} {G : Gw} {x0 : Nat} {x1 : Int32} {x2 : Nat} {Φ : Hp → Int32 → Prop} (C0 : Mx p s m c cL_steepOver 4 args yL_steepOver.cls G) (Y : My meth (some .int)) (hl9 : l.stackTraces = false) (ht9 : c.exceptionTable.toList = tableOf [(0, 8, 11, 19), (0, 8, 14, 23)])  : ∀ (S : Hp) (H : Heap) (locs : List Loc) (ls : Array Slot) (cells slots : Nat), wL_steepOver_b0 x0 x1 x2 Φ S → Ok G S H → va_S (Ab G.b) s.heap H locs → lv_has ls 4 [(0, .ref x0), (1, .int x1), (2, .ref x2)] → cells + (3) ≤ 3 → slots + (14) ≤ 14 → W p l e rm_L_steepOver s m args below meth c H locs cells slots (MQ below (gQ G (PI Φ)) args s rm_L_steepOver.cells rm_L_steepOver.slots (Ab G.b)) (F0 m 0 ls []) := by
  intro S H locs ls cells slots h hO hS hl hcc hss
  unfold wL_steepOver_b0 at h
  refine lv_aload_n C0.1 C0.2.1 dL_steepOver_0 rfl (lv_at hl 2 rfl) ?_
  refine lv_iconst (v := 0) C0.1 C0.2.1 dL_steepOver_1 (by decide) ?_
  refine lv_aload_n C0.1 C0.2.1 dL_steepOver_2 rfl (lv_at hl 0 rfl) ?_
  refine lv_iload_n C0.1 C0.2.1 dL_steepOver_3 rfl (lv_at hl 1 rfl) ?_
  obtain ⟨i3, h⟩ := h
  refine y_V C0 hO hS (mX7_steepOver hl9 h) i3 (by decide) rfl rfl tb_1071 tb_1072 tb_1073 tb_74 tb_1074 hd_X7_steepOver rfl ⟨⟨by decide, by decide⟩, by show _ + 3 ≤ 3; omega, by show _ + 14 ≤ 14; omega⟩ hl.1 rfl (Nat.le_of_ble_eq_true rfl) dL_steepOver_4 (fun E9 ce9 q9 S9 H locs h hO hS hcell hv9 hcl => ?_) (kJ (fun r2 S1 H locs h hO hS => ?_))
  · rcases h with ⟨rfl, h⟩ | ⟨rfl, h⟩
    · refine k_catch C0 ht9 (tableOf []) ⟨0, 8, 11, 19⟩ (tableOf [(0, 8, 14, 23)]) rfl (fun z hz => absurd hz (List.not_mem_nil)) rfl (by decide) tb_533 (by decide +kernel) hcell hv9 hcl ?_
      change W _ _ _ _ _ _ _ _ _ _ _ _ (_ + 3) (_ + 14) _ _
      refine lv_astore_n C0.1 C0.2.1 dL_steepOver_11 rfl hl (by decide) rfl (fun ls hl => ?_)
      refine lv_iconst (v := 1) C0.1 C0.2.1 dL_steepOver_12 (by decide) ?_
      exact e_I C0 Y hO hS h (by show _ ≤ 3; omega) (by show _ ≤ 14; omega) dL_steepOver_13
    · refine k_catch C0 ht9 (tableOf [(0, 8, 11, 19)]) ⟨0, 8, 14, 23⟩ (tableOf []) rfl (List.forall_mem_cons.mpr ⟨no_of C0 (by decide) tb_533 (by decide +kernel), (fun z hz => absurd hz (List.not_mem_nil))⟩) rfl (by decide) tb_558 (by decide +kernel) hcell hv9 hcl ?_
      change W _ _ _ _ _ _ _ _ _ _ _ _ (_ + 3) (_ + 14) _ _
      refine lv_astore_n C0.1 C0.2.1 dL_steepOver_14 rfl hl (by decide) rfl (fun ls hl => ?_)
      refine lv_iconst (v := 2) C0.1 C0.2.1 dL_steepOver_15 (by decide) ?_
      exact e_I C0 Y hO hS h (by show _ ≤ 3; omega) (by show _ ≤ 14; omega) dL_steepOver_16
  · change W _ _ _ _ _ _ _ _ _ _ _ _ (_ + 3) (_ + 14) _ _
    obtain ⟨i4, h⟩ := h
    obtain ⟨e5, h⟩ := h
    refine r_last C0 hO hS i4 e5 dL_steepOver_7 (fun H locs hO hS => ?_)
    have h := h _ rfl
    refine lv_goto (tgt := 17) C0.1 C0.2.1 dL_steepOver_8 (by decide) ?_
    refine lv_iconst (v := 0) C0.1 C0.2.1 dL_steepOver_17 (by decide) ?_
    exact e_I C0 Y hO hS h (by show _ ≤ 3; omega) (by show _ ≤ 14; omega) dL_steepOver_18
def wL_steepOver (S : Hp) (x0 : Nat) (x1 : Int32) (x2 : Nat) (Φ : Hp → Int32 → Prop) : Prop := wL_steepOver_b0 x0 x1 x2 Φ S
set_option maxRecDepth 100000 in
theorem mL_steepOver {l : Launch} {G : Gw} (hl9 : l.stackTraces = false) {S : Hp} {x0 : Nat} {x1 : Int32} {x2 : Nat} {Φ : Hp → Int32 → Prop} (h : wL_steepOver S x0 x1 x2 Φ) : gW l yL_steepOver cL_steepOver 4 (some .int) [(0, 8, 11, 19), (0, 8, 14, 23)] rm_L_steepOver [.ref x0, .int x1, .ref x2] G S (PI Φ) := by
  unfold gW
  refine va_MetW (hh := [(0, 8, 11, 19), (0, 8, 14, 23)]) (cc := cL_steepOver) (maxL := 4) (ret := (some .int)) (by decide) rfl ?_
  intro p e s m args below meth c s₁ B hml hv
  obtain ⟨rfl, hw⟩ := hv
  obtain ⟨C0, Y, hO, ht9⟩ := mx_ofW B hml hw
  have hS : va_S (Ab G.b) s.heap s.heap [] := va_S.rf
  have hl := lv_entry ([.ref x0, .int x1, .ref x2]) (n := 4) (Nat.le_of_ble_eq_true rfl)
  rw [lg_entry_eq]
  generalize (lg_sl ([.ref x0, .int x1, .ref x2]) ++ List.replicate (4 - (lg_sl ([.ref x0, .int x1, .ref x2])).length) Slot.unset).toArray = ls at hl ⊢
  have hl : lv_has ls 4 [(0, .ref x0), (1, .int x1), (2, .ref x2)] := hl
  exact bL_steepOver_b0 C0 Y hl9 ht9 S _ _ _ 0 0 h hO hS hl (by decide) (by decide)

theorem hd_L_steepUnder : nmOk yL_steepUnder 3 := by unfold nmOk; decide +kernel
def rm_L_steepUnder : Room := { frames := 9, cells := 3, slots := 14, locals := 154 }
def wL_steepUnder_b0 (x0 : Nat) (x1 : Int32) (x2 : Nat) (Φ : Hp → Int32 → Prop) (S : Hp) : Prop := isA S x0 7 ∧ wX7_steepUnder S x0 x1 (fun S1 r2 => isA S1 x2 22 ∧ vp_in 0 (S1.N x2) ∧ ∀ S6, S6 = S1.setAJ x2 ((0 : Int32).toNatClampNeg) r2 → Φ S6 0) (fun S9 E9 => (E9 = "java/lang/IndexOutOfBoundsException" ∧ Φ S9 1) ∨ (E9 = "java/lang/UnsupportedOperationException" ∧ Φ S9 2))
set_option maxHeartbeats 4000000 in
set_option maxRecDepth 100000 in
theorem bL_steepUnder_b0 {p : Program} {l : Launch} {e : Env} {s : State} {m : MethodId} {args : Array Value} {below : List Frame} {meth : Method} {c : Code} {G : Gw} {x0 : Nat} {x1 : Int32} {x2 : Nat} {Φ : Hp → Int32 → Prop} (C0 : Mx p s m c cL_steepUnder 4 args yL_steepUnder.cls G) (Y : My meth (some .int)) (hl9 : l.stackTraces = false) (ht9 : c.exceptionTable.toList = tableOf [(0, 8, 11, 19), (0, 8, 14, 23)])  : ∀ (S : Hp) (H : Heap) (locs : List Loc) (ls : Array Slot) (cells slots : Nat), wL_steepUnder_b0 x0 x1 x2 Φ S → Ok G S H → va_S (Ab G.b) s.heap H locs → lv_has ls 4 [(0, .ref x0), (1, .int x1), (2, .ref x2)] → cells + (3) ≤ 3 → slots + (14) ≤ 14 → W p l e rm_L_steepUnder s m args below meth c H locs cells slots (MQ below (gQ G (PI Φ)) args s rm_L_steepUnder.cells rm_L_steepUnder.slots (Ab G.b)) (F0 m 0 ls []) := by
  intro S H locs ls cells slots h hO hS hl hcc hss
  unfold wL_steepUnder_b0 at h
  refine lv_aload_n C0.1 C0.2.1 dL_steepUnder_0 rfl (lv_at hl 2 rfl) ?_
  refine lv_iconst (v := 0) C0.1 C0.2.1 dL_steepUnder_1 (by decide) ?_
  refine lv_aload_n C0.1 C0.2.1 dL_steepUnder_2 rfl (lv_at hl 0 rfl) ?_
  refine lv_iload_n C0.1 C0.2.1 dL_steepUnder_3 rfl (lv_at hl 1 rfl) ?_
  obtain ⟨i3, h⟩ := h
  refine y_V C0 hO hS (mX7_steepUnder hl9 h) i3 (by decide) rfl rfl tb_1086 tb_1087 tb_1088 tb_74 tb_1089 hd_X7_steepUnder rfl ⟨⟨by decide, by decide⟩, by show _ + 3 ≤ 3; omega, by show _ + 14 ≤ 14; omega⟩ hl.1 rfl (Nat.le_of_ble_eq_true rfl) dL_steepUnder_4 (fun E9 ce9 q9 S9 H locs h hO hS hcell hv9 hcl => ?_) (kJ (fun r2 S1 H locs h hO hS => ?_))
  · rcases h with ⟨rfl, h⟩ | ⟨rfl, h⟩
    · refine k_catch C0 ht9 (tableOf []) ⟨0, 8, 11, 19⟩ (tableOf [(0, 8, 14, 23)]) rfl (fun z hz => absurd hz (List.not_mem_nil)) rfl (by decide) tb_533 (by decide +kernel) hcell hv9 hcl ?_
      change W _ _ _ _ _ _ _ _ _ _ _ _ (_ + 3) (_ + 14) _ _
      refine lv_astore_n C0.1 C0.2.1 dL_steepUnder_11 rfl hl (by decide) rfl (fun ls hl => ?_)
      refine lv_iconst (v := 1) C0.1 C0.2.1 dL_steepUnder_12 (by decide) ?_
      exact e_I C0 Y hO hS h (by show _ ≤ 3; omega) (by show _ ≤ 14; omega) dL_steepUnder_13
    · refine k_catch C0 ht9 (tableOf [(0, 8, 11, 19)]) ⟨0, 8, 14, 23⟩ (tableOf []) rfl (List.forall_mem_cons.mpr ⟨no_of C0 (by decide) tb_533 (by decide +kernel), (fun z hz => absurd hz (List.not_mem_nil))⟩) rfl (by decide) tb_558 (by decide +kernel) hcell hv9 hcl ?_
      change W _ _ _ _ _ _ _ _ _ _ _ _ (_ + 3) (_ + 14) _ _
      refine lv_astore_n C0.1 C0.2.1 dL_steepUnder_14 rfl hl (by decide) rfl (fun ls hl => ?_)
      refine lv_iconst (v := 2) C0.1 C0.2.1 dL_steepUnder_15 (by decide) ?_
      exact e_I C0 Y hO hS h (by show _ ≤ 3; omega) (by show _ ≤ 14; omega) dL_steepUnder_16
  · change W _ _ _ _ _ _ _ _ _ _ _ _ (_ + 3) (_ + 14) _ _
    obtain ⟨i4, h⟩ := h
    obtain ⟨e5, h⟩ := h
    refine r_last C0 hO hS i4 e5 dL_steepUnder_7 (fun H locs hO hS => ?_)
    have h := h _ rfl
    refine lv_goto (tgt := 17) C0.1 C0.2.1 dL_steepUnder_8 (by decide) ?_
    refine lv_iconst (v := 0) C0.1 C0.2.1 dL_steepUnder_17 (by decide) ?_
    exact e_I C0 Y hO hS h (by show _ ≤ 3; omega) (by show _ ≤ 14; omega) dL_steepUnder_18
def wL_steepUnder (S : Hp) (x0 : Nat) (x1 : Int32) (x2 : Nat) (Φ : Hp → Int32 → Prop) : Prop := wL_steepUnder_b0 x0 x1 x2 Φ S
set_option maxRecDepth 100000 in
theorem mL_steepUnder {l : Launch} {G : Gw} (hl9 : l.stackTraces = false) {S : Hp} {x0 : Nat} {x1 : Int32} {x2 : Nat} {Φ : Hp → Int32 → Prop} (h : wL_steepUnder S x0 x1 x2 Φ) : gW l yL_steepUnder cL_steepUnder 4 (some .int) [(0, 8, 11, 19), (0, 8, 14, 23)] rm_L_steepUnder [.ref x0, .int x1, .ref x2] G S (PI Φ) := by
  unfold gW
  refine va_MetW (hh := [(0, 8, 11, 19), (0, 8, 14, 23)]) (cc := cL_steepUnder) (maxL := 4) (ret := (some .int)) (by decide) rfl ?_
  intro p e s m args below meth c s₁ B hml hv
  obtain ⟨rfl, hw⟩ := hv
  obtain ⟨C0, Y, hO, ht9⟩ := mx_ofW B hml hw
  have hS : va_S (Ab G.b) s.heap s.heap [] := va_S.rf
  have hl := lv_entry ([.ref x0, .int x1, .ref x2]) (n := 4) (Nat.le_of_ble_eq_true rfl)
  rw [lg_entry_eq]
  generalize (lg_sl ([.ref x0, .int x1, .ref x2]) ++ List.replicate (4 - (lg_sl ([.ref x0, .int x1, .ref x2])).length) Slot.unset).toArray = ls at hl ⊢
  have hl : lv_has ls 4 [(0, .ref x0), (1, .int x1), (2, .ref x2)] := hl
  exact bL_steepUnder_b0 C0 Y hl9 ht9 S _ _ _ 0 0 h hO hS hl (by decide) (by decide)

theorem hd_L_wish : nmOk yL_wish 5 := by unfold nmOk; decide +kernel
def rm_L_wish : Room := { frames := 8, cells := 3, slots := 18, locals := 136 }
def wL_wish_b0 (x0 : Nat) (x1 : Int32) (x2 : Int32) (x3 : Int32) (x4 : Nat) (Φ : Hp → Int32 → Prop) (S : Hp) : Prop := isA S x0 7 ∧ wX7_wish S x0 x1 x2 x3 (fun S1 r2 => isA S1 x4 22 ∧ vp_in 0 (S1.N x4) ∧ ∀ S6, S6 = S1.setAJ x4 ((0 : Int32).toNatClampNeg) r2.toInt64 → Φ S6 0) (fun S9 E9 => (E9 = "java/lang/IndexOutOfBoundsException" ∧ Φ S9 1) ∨ (E9 = "java/lang/IllegalArgumentException" ∧ Φ S9 2))
set_option maxHeartbeats 4000000 in
set_option maxRecDepth 100000 in
theorem bL_wish_b0 {p : Program} {l : Launch} {e : Env} {s : State} {m : MethodId} {args : Array Value} {below : List Frame} {meth : Method} {c : Code} {G : Gw} {x0 : Nat} {x1 : Int32} {x2 : Int32} {x3 : Int32} {x4 : Nat} {Φ : Hp → Int32 → Prop} (C0 : Mx p s m c cL_wish 6 args yL_wish.cls G) (Y : My meth (some .int)) (hl9 : l.stackTraces = false) (ht9 : c.exceptionTable.toList = tableOf [(0, 12, 15, 19), (0, 12, 19, 21)])  : ∀ (S : Hp) (H : Heap) (locs : List Loc) (ls : Array Slot) (cells slots : Nat), wL_wish_b0 x0 x1 x2 x3 x4 Φ S → Ok G S H → va_S (Ab G.b) s.heap H locs → lv_has ls 6 [(0, .ref x0), (1, .int x1), (2, .int x2), (3, .int x3), (4, .ref x4)] → cells + (3) ≤ 3 → slots + (18) ≤ 18 → W p l e rm_L_wish s m args below meth c H locs cells slots (MQ below (gQ G (PI Φ)) args s rm_L_wish.cells rm_L_wish.slots (Ab G.b)) (F0 m 0 ls []) := by
  intro S H locs ls cells slots h hO hS hl hcc hss
  unfold wL_wish_b0 at h
  refine lv_aload C0.1 C0.2.1 dL_wish_0 (lv_at hl 4 rfl) ?_
  refine lv_iconst (v := 0) C0.1 C0.2.1 dL_wish_2 (by decide) ?_
  refine lv_aload_n C0.1 C0.2.1 dL_wish_3 rfl (lv_at hl 0 rfl) ?_
  refine lv_iload_n C0.1 C0.2.1 dL_wish_4 rfl (lv_at hl 1 rfl) ?_
  refine lv_iload_n C0.1 C0.2.1 dL_wish_5 rfl (lv_at hl 2 rfl) ?_
  refine lv_iload_n C0.1 C0.2.1 dL_wish_6 rfl (lv_at hl 3 rfl) ?_
  obtain ⟨i3, h⟩ := h
  refine y_V C0 hO hS (mX7_wish hl9 h) i3 (by decide) rfl rfl tb_1093 tb_1094 tb_1095 tb_74 tb_1096 hd_X7_wish rfl ⟨⟨by decide, by decide⟩, by show _ + 3 ≤ 3; omega, by show _ + 18 ≤ 18; omega⟩ hl.1 rfl (Nat.le_of_ble_eq_true rfl) dL_wish_7 (fun E9 ce9 q9 S9 H locs h hO hS hcell hv9 hcl => ?_) (kI (fun r2 S1 H locs h hO hS => ?_))
  · rcases h with ⟨rfl, h⟩ | ⟨rfl, h⟩
    · refine k_catch C0 ht9 (tableOf []) ⟨0, 12, 15, 19⟩ (tableOf [(0, 12, 19, 21)]) rfl (fun z hz => absurd hz (List.not_mem_nil)) rfl (by decide) tb_533 (by decide +kernel) hcell hv9 hcl ?_
      change W _ _ _ _ _ _ _ _ _ _ _ _ (_ + 3) (_ + 18) _ _
      refine lv_astore C0.1 C0.2.1 dL_wish_15 hl (by decide) rfl (fun ls hl => ?_)
      refine lv_iconst (v := 1) C0.1 C0.2.1 dL_wish_17 (by decide) ?_
      exact e_I C0 Y hO hS h (by show _ ≤ 3; omega) (by show _ ≤ 18; omega) dL_wish_18
    · refine k_catch C0 ht9 (tableOf [(0, 12, 15, 19)]) ⟨0, 12, 19, 21⟩ (tableOf []) rfl (List.forall_mem_cons.mpr ⟨no_of C0 (by decide) tb_533 (by decide +kernel), (fun z hz => absurd hz (List.not_mem_nil))⟩) rfl (by decide) tb_557 (by decide +kernel) hcell hv9 hcl ?_
      change W _ _ _ _ _ _ _ _ _ _ _ _ (_ + 3) (_ + 18) _ _
      refine lv_astore C0.1 C0.2.1 dL_wish_19 hl (by decide) rfl (fun ls hl => ?_)
      refine lv_iconst (v := 2) C0.1 C0.2.1 dL_wish_21 (by decide) ?_
      exact e_I C0 Y hO hS h (by show _ ≤ 3; omega) (by show _ ≤ 18; omega) dL_wish_22
  · change W _ _ _ _ _ _ _ _ _ _ _ _ (_ + 3) (_ + 18) _ _
    refine lv_i2l C0.1 C0.2.1 dL_wish_10 rfl ?_
    obtain ⟨i4, h⟩ := h
    obtain ⟨e5, h⟩ := h
    refine r_last C0 hO hS i4 e5 dL_wish_11 (fun H locs hO hS => ?_)
    have h := h _ rfl
    refine lv_goto (tgt := 23) C0.1 C0.2.1 dL_wish_12 (by decide) ?_
    refine lv_iconst (v := 0) C0.1 C0.2.1 dL_wish_23 (by decide) ?_
    exact e_I C0 Y hO hS h (by show _ ≤ 3; omega) (by show _ ≤ 18; omega) dL_wish_24
def wL_wish (S : Hp) (x0 : Nat) (x1 : Int32) (x2 : Int32) (x3 : Int32) (x4 : Nat) (Φ : Hp → Int32 → Prop) : Prop := wL_wish_b0 x0 x1 x2 x3 x4 Φ S
set_option maxRecDepth 100000 in
theorem mL_wish {l : Launch} {G : Gw} (hl9 : l.stackTraces = false) {S : Hp} {x0 : Nat} {x1 : Int32} {x2 : Int32} {x3 : Int32} {x4 : Nat} {Φ : Hp → Int32 → Prop} (h : wL_wish S x0 x1 x2 x3 x4 Φ) : gW l yL_wish cL_wish 6 (some .int) [(0, 12, 15, 19), (0, 12, 19, 21)] rm_L_wish [.ref x0, .int x1, .int x2, .int x3, .ref x4] G S (PI Φ) := by
  unfold gW
  refine va_MetW (hh := [(0, 12, 15, 19), (0, 12, 19, 21)]) (cc := cL_wish) (maxL := 6) (ret := (some .int)) (by decide) rfl ?_
  intro p e s m args below meth c s₁ B hml hv
  obtain ⟨rfl, hw⟩ := hv
  obtain ⟨C0, Y, hO, ht9⟩ := mx_ofW B hml hw
  have hS : va_S (Ab G.b) s.heap s.heap [] := va_S.rf
  have hl := lv_entry ([.ref x0, .int x1, .int x2, .int x3, .ref x4]) (n := 6) (Nat.le_of_ble_eq_true rfl)
  rw [lg_entry_eq]
  generalize (lg_sl ([.ref x0, .int x1, .int x2, .int x3, .ref x4]) ++ List.replicate (6 - (lg_sl ([.ref x0, .int x1, .int x2, .int x3, .ref x4])).length) Slot.unset).toArray = ls at hl ⊢
  have hl : lv_has ls 6 [(0, .ref x0), (1, .int x1), (2, .int x2), (3, .int x3), (4, .ref x4)] := hl
  exact bL_wish_b0 C0 Y hl9 ht9 S _ _ _ 0 0 h hO hS hl (by decide) (by decide)

theorem hd_L_make : nmOk yL_make 5 := by unfold nmOk; decide +kernel
def rm_L_make : Room := { frames := 8, cells := 4, slots := 24, locals := 136 }
def wL_make_b0 (x0 : Nat) (x1 : Int32) (x2 : Int32) (x3 : Int32) (x4 : Nat) (Φ : Hp → Int32 → Prop) (S : Hp) : Prop := isA S x0 7 ∧ wX7_make S x0 x1 x2 x3 (fun S1 r2 => isA S1 x4 22 ∧ vp_in 0 (S1.N x4) ∧ ∀ S6, S6 = S1.setAJ x4 ((0 : Int32).toNatClampNeg) r2.toInt64 → Φ S6 0) (fun S9 E9 => (E9 = "java/lang/IndexOutOfBoundsException" ∧ Φ S9 1) ∨ (E9 = "java/lang/IllegalArgumentException" ∧ Φ S9 2) ∨ (E9 = "java/util/NoSuchElementException" ∧ Φ S9 3) ∨ (E9 = "java/lang/UnsupportedOperationException" ∧ Φ S9 4))
set_option maxHeartbeats 4000000 in
set_option maxRecDepth 100000 in
theorem bL_make_b0 {p : Program} {l : Launch} {e : Env} {s : State} {m : MethodId} {args : Array Value} {below : List Frame} {meth : Method} {c : Code} {G : Gw} {x0 : Nat} {x1 : Int32} {x2 : Int32} {x3 : Int32} {x4 : Nat} {Φ : Hp → Int32 → Prop} (C0 : Mx p s m c cL_make 6 args yL_make.cls G) (Y : My meth (some .int)) (hl9 : l.stackTraces = false) (ht9 : c.exceptionTable.toList = tableOf [(0, 12, 15, 19), (0, 12, 19, 21), (0, 12, 23, 61), (0, 12, 27, 23)])  : ∀ (S : Hp) (H : Heap) (locs : List Loc) (ls : Array Slot) (cells slots : Nat), wL_make_b0 x0 x1 x2 x3 x4 Φ S → Ok G S H → va_S (Ab G.b) s.heap H locs → lv_has ls 6 [(0, .ref x0), (1, .int x1), (2, .int x2), (3, .int x3), (4, .ref x4)] → cells + (4) ≤ 4 → slots + (24) ≤ 24 → W p l e rm_L_make s m args below meth c H locs cells slots (MQ below (gQ G (PI Φ)) args s rm_L_make.cells rm_L_make.slots (Ab G.b)) (F0 m 0 ls []) := by
  intro S H locs ls cells slots h hO hS hl hcc hss
  unfold wL_make_b0 at h
  refine lv_aload C0.1 C0.2.1 dL_make_0 (lv_at hl 4 rfl) ?_
  refine lv_iconst (v := 0) C0.1 C0.2.1 dL_make_2 (by decide) ?_
  refine lv_aload_n C0.1 C0.2.1 dL_make_3 rfl (lv_at hl 0 rfl) ?_
  refine lv_iload_n C0.1 C0.2.1 dL_make_4 rfl (lv_at hl 1 rfl) ?_
  refine lv_iload_n C0.1 C0.2.1 dL_make_5 rfl (lv_at hl 2 rfl) ?_
  refine lv_iload_n C0.1 C0.2.1 dL_make_6 rfl (lv_at hl 3 rfl) ?_
  obtain ⟨i3, h⟩ := h
  refine y_V C0 hO hS (mX7_make hl9 h) i3 (by decide) rfl rfl tb_1104 tb_1105 tb_1106 tb_74 tb_1107 hd_X7_make rfl ⟨⟨by decide, by decide⟩, by show _ + 4 ≤ 4; omega, by show _ + 24 ≤ 24; omega⟩ hl.1 rfl (Nat.le_of_ble_eq_true rfl) dL_make_7 (fun E9 ce9 q9 S9 H locs h hO hS hcell hv9 hcl => ?_) (kI (fun r2 S1 H locs h hO hS => ?_))
  · rcases h with ⟨rfl, h⟩ | ⟨rfl, h⟩ | ⟨rfl, h⟩ | ⟨rfl, h⟩
    · refine k_catch C0 ht9 (tableOf []) ⟨0, 12, 15, 19⟩ (tableOf [(0, 12, 19, 21), (0, 12, 23, 61), (0, 12, 27, 23)]) rfl (fun z hz => absurd hz (List.not_mem_nil)) rfl (by decide) tb_533 (by decide +kernel) hcell hv9 hcl ?_
      change W _ _ _ _ _ _ _ _ _ _ _ _ (_ + 4) (_ + 24) _ _
      refine lv_astore C0.1 C0.2.1 dL_make_15 hl (by decide) rfl (fun ls hl => ?_)
      refine lv_iconst (v := 1) C0.1 C0.2.1 dL_make_17 (by decide) ?_
      exact e_I C0 Y hO hS h (by show _ ≤ 4; omega) (by show _ ≤ 24; omega) dL_make_18
    · refine k_catch C0 ht9 (tableOf [(0, 12, 15, 19)]) ⟨0, 12, 19, 21⟩ (tableOf [(0, 12, 23, 61), (0, 12, 27, 23)]) rfl (List.forall_mem_cons.mpr ⟨no_of C0 (by decide) tb_533 (by decide +kernel), (fun z hz => absurd hz (List.not_mem_nil))⟩) rfl (by decide) tb_557 (by decide +kernel) hcell hv9 hcl ?_
      change W _ _ _ _ _ _ _ _ _ _ _ _ (_ + 4) (_ + 24) _ _
      refine lv_astore C0.1 C0.2.1 dL_make_19 hl (by decide) rfl (fun ls hl => ?_)
      refine lv_iconst (v := 2) C0.1 C0.2.1 dL_make_21 (by decide) ?_
      exact e_I C0 Y hO hS h (by show _ ≤ 4; omega) (by show _ ≤ 24; omega) dL_make_22
    · refine k_catch C0 ht9 (tableOf [(0, 12, 15, 19), (0, 12, 19, 21)]) ⟨0, 12, 23, 61⟩ (tableOf [(0, 12, 27, 23)]) rfl (List.forall_mem_cons.mpr ⟨no_of C0 (by decide) tb_533 (by decide +kernel), (List.forall_mem_cons.mpr ⟨no_of C0 (by decide) tb_557 (by decide +kernel), (fun z hz => absurd hz (List.not_mem_nil))⟩)⟩) rfl (by decide) tb_900 (by decide +kernel) hcell hv9 hcl ?_
      change W _ _ _ _ _ _ _ _ _ _ _ _ (_ + 4) (_ + 24) _ _
      refine lv_astore C0.1 C0.2.1 dL_make_23 hl (by decide) rfl (fun ls hl => ?_)
      refine lv_iconst (v := 3) C0.1 C0.2.1 dL_make_25 (by decide) ?_
      exact e_I C0 Y hO hS h (by show _ ≤ 4; omega) (by show _ ≤ 24; omega) dL_make_26
    · refine k_catch C0 ht9 (tableOf [(0, 12, 15, 19), (0, 12, 19, 21), (0, 12, 23, 61)]) ⟨0, 12, 27, 23⟩ (tableOf []) rfl (List.forall_mem_cons.mpr ⟨no_of C0 (by decide) tb_533 (by decide +kernel), (List.forall_mem_cons.mpr ⟨no_of C0 (by decide) tb_557 (by decide +kernel), (List.forall_mem_cons.mpr ⟨no_of C0 (by decide) tb_900 (by decide +kernel), (fun z hz => absurd hz (List.not_mem_nil))⟩)⟩)⟩) rfl (by decide) tb_558 (by decide +kernel) hcell hv9 hcl ?_
      change W _ _ _ _ _ _ _ _ _ _ _ _ (_ + 4) (_ + 24) _ _
      refine lv_astore C0.1 C0.2.1 dL_make_27 hl (by decide) rfl (fun ls hl => ?_)
      refine lv_iconst (v := 4) C0.1 C0.2.1 dL_make_29 (by decide) ?_
      exact e_I C0 Y hO hS h (by show _ ≤ 4; omega) (by show _ ≤ 24; omega) dL_make_30
  · change W _ _ _ _ _ _ _ _ _ _ _ _ (_ + 4) (_ + 24) _ _
    refine lv_i2l C0.1 C0.2.1 dL_make_10 rfl ?_
    obtain ⟨i4, h⟩ := h
    obtain ⟨e5, h⟩ := h
    refine r_last C0 hO hS i4 e5 dL_make_11 (fun H locs hO hS => ?_)
    have h := h _ rfl
    refine lv_goto (tgt := 31) C0.1 C0.2.1 dL_make_12 (by decide) ?_
    refine lv_iconst (v := 0) C0.1 C0.2.1 dL_make_31 (by decide) ?_
    exact e_I C0 Y hO hS h (by show _ ≤ 4; omega) (by show _ ≤ 24; omega) dL_make_32
def wL_make (S : Hp) (x0 : Nat) (x1 : Int32) (x2 : Int32) (x3 : Int32) (x4 : Nat) (Φ : Hp → Int32 → Prop) : Prop := wL_make_b0 x0 x1 x2 x3 x4 Φ S
set_option maxRecDepth 100000 in
theorem mL_make {l : Launch} {G : Gw} (hl9 : l.stackTraces = false) {S : Hp} {x0 : Nat} {x1 : Int32} {x2 : Int32} {x3 : Int32} {x4 : Nat} {Φ : Hp → Int32 → Prop} (h : wL_make S x0 x1 x2 x3 x4 Φ) : gW l yL_make cL_make 6 (some .int) [(0, 12, 15, 19), (0, 12, 19, 21), (0, 12, 23, 61), (0, 12, 27, 23)] rm_L_make [.ref x0, .int x1, .int x2, .int x3, .ref x4] G S (PI Φ) := by
  unfold gW
  refine va_MetW (hh := [(0, 12, 15, 19), (0, 12, 19, 21), (0, 12, 23, 61), (0, 12, 27, 23)]) (cc := cL_make) (maxL := 6) (ret := (some .int)) (by decide) rfl ?_
  intro p e s m args below meth c s₁ B hml hv
  obtain ⟨rfl, hw⟩ := hv
  obtain ⟨C0, Y, hO, ht9⟩ := mx_ofW B hml hw
  have hS : va_S (Ab G.b) s.heap s.heap [] := va_S.rf
  have hl := lv_entry ([.ref x0, .int x1, .int x2, .int x3, .ref x4]) (n := 6) (Nat.le_of_ble_eq_true rfl)
  rw [lg_entry_eq]
  generalize (lg_sl ([.ref x0, .int x1, .int x2, .int x3, .ref x4]) ++ List.replicate (6 - (lg_sl ([.ref x0, .int x1, .int x2, .int x3, .ref x4])).length) Slot.unset).toArray = ls at hl ⊢
  have hl : lv_has ls 6 [(0, .ref x0), (1, .int x1), (2, .int x2), (3, .int x3), (4, .ref x4)] := hl
  exact bL_make_b0 C0 Y hl9 ht9 S _ _ _ 0 0 h hO hS hl (by decide) (by decide)

theorem hd_L_drum : nmOk yL_drum 3 := by unfold nmOk; decide +kernel
def rm_L_drum : Room := { frames := 8, cells := 5, slots := 65, locals := 212 }
def wL_drum_b0 (x0 : Nat) (x1 : Int32) (x2 : Nat) (Φ : Hp → Int32 → Prop) (S : Hp) : Prop := isA S x0 7 ∧ wX7_drum S x0 x1 (fun S1 r2 => isA S1 x2 22 ∧ vp_in 0 (S1.N x2) ∧ ∀ S6, S6 = S1.setAJ x2 ((0 : Int32).toNatClampNeg) r2.toInt64 → Φ S6 0) (fun S9 E9 => (E9 = "java/lang/IndexOutOfBoundsException" ∧ Φ S9 1) ∨ (E9 = "java/lang/IllegalStateException" ∧ Φ S9 2))
set_option maxHeartbeats 4000000 in
set_option maxRecDepth 100000 in
theorem bL_drum_b0 {p : Program} {l : Launch} {e : Env} {s : State} {m : MethodId} {args : Array Value} {below : List Frame} {meth : Method} {c : Code} {G : Gw} {x0 : Nat} {x1 : Int32} {x2 : Nat} {Φ : Hp → Int32 → Prop} (C0 : Mx p s m c cL_drum 4 args yL_drum.cls G) (Y : My meth (some .int)) (hl9 : l.stackTraces = false) (ht9 : c.exceptionTable.toList = tableOf [(0, 9, 12, 19), (0, 9, 15, 13)])  : ∀ (S : Hp) (H : Heap) (locs : List Loc) (ls : Array Slot) (cells slots : Nat), wL_drum_b0 x0 x1 x2 Φ S → Ok G S H → va_S (Ab G.b) s.heap H locs → lv_has ls 4 [(0, .ref x0), (1, .int x1), (2, .ref x2)] → cells + (5) ≤ 5 → slots + (65) ≤ 65 → W p l e rm_L_drum s m args below meth c H locs cells slots (MQ below (gQ G (PI Φ)) args s rm_L_drum.cells rm_L_drum.slots (Ab G.b)) (F0 m 0 ls []) := by
  intro S H locs ls cells slots h hO hS hl hcc hss
  unfold wL_drum_b0 at h
  refine lv_aload_n C0.1 C0.2.1 dL_drum_0 rfl (lv_at hl 2 rfl) ?_
  refine lv_iconst (v := 0) C0.1 C0.2.1 dL_drum_1 (by decide) ?_
  refine lv_aload_n C0.1 C0.2.1 dL_drum_2 rfl (lv_at hl 0 rfl) ?_
  refine lv_iload_n C0.1 C0.2.1 dL_drum_3 rfl (lv_at hl 1 rfl) ?_
  obtain ⟨i3, h⟩ := h
  refine y_V C0 hO hS (mX7_drum hl9 h) i3 (by decide) rfl rfl tb_1131 tb_1132 tb_1133 tb_74 tb_1134 hd_X7_drum rfl ⟨⟨by decide, by decide⟩, by show _ + 5 ≤ 5; omega, by show _ + 65 ≤ 65; omega⟩ hl.1 rfl (Nat.le_of_ble_eq_true rfl) dL_drum_4 (fun E9 ce9 q9 S9 H locs h hO hS hcell hv9 hcl => ?_) (kI (fun r2 S1 H locs h hO hS => ?_))
  · rcases h with ⟨rfl, h⟩ | ⟨rfl, h⟩
    · refine k_catch C0 ht9 (tableOf []) ⟨0, 9, 12, 19⟩ (tableOf [(0, 9, 15, 13)]) rfl (fun z hz => absurd hz (List.not_mem_nil)) rfl (by decide) tb_533 (by decide +kernel) hcell hv9 hcl ?_
      change W _ _ _ _ _ _ _ _ _ _ _ _ (_ + 5) (_ + 65) _ _
      refine lv_astore_n C0.1 C0.2.1 dL_drum_12 rfl hl (by decide) rfl (fun ls hl => ?_)
      refine lv_iconst (v := 1) C0.1 C0.2.1 dL_drum_13 (by decide) ?_
      exact e_I C0 Y hO hS h (by show _ ≤ 5; omega) (by show _ ≤ 65; omega) dL_drum_14
    · refine k_catch C0 ht9 (tableOf [(0, 9, 12, 19)]) ⟨0, 9, 15, 13⟩ (tableOf []) rfl (List.forall_mem_cons.mpr ⟨no_of C0 (by decide) tb_533 (by decide +kernel), (fun z hz => absurd hz (List.not_mem_nil))⟩) rfl (by decide) tb_453 (by decide +kernel) hcell hv9 hcl ?_
      change W _ _ _ _ _ _ _ _ _ _ _ _ (_ + 5) (_ + 65) _ _
      refine lv_astore_n C0.1 C0.2.1 dL_drum_15 rfl hl (by decide) rfl (fun ls hl => ?_)
      refine lv_iconst (v := 2) C0.1 C0.2.1 dL_drum_16 (by decide) ?_
      exact e_I C0 Y hO hS h (by show _ ≤ 5; omega) (by show _ ≤ 65; omega) dL_drum_17
  · change W _ _ _ _ _ _ _ _ _ _ _ _ (_ + 5) (_ + 65) _ _
    refine lv_i2l C0.1 C0.2.1 dL_drum_7 rfl ?_
    obtain ⟨i4, h⟩ := h
    obtain ⟨e5, h⟩ := h
    refine r_last C0 hO hS i4 e5 dL_drum_8 (fun H locs hO hS => ?_)
    have h := h _ rfl
    refine lv_goto (tgt := 18) C0.1 C0.2.1 dL_drum_9 (by decide) ?_
    refine lv_iconst (v := 0) C0.1 C0.2.1 dL_drum_18 (by decide) ?_
    exact e_I C0 Y hO hS h (by show _ ≤ 5; omega) (by show _ ≤ 65; omega) dL_drum_19
def wL_drum (S : Hp) (x0 : Nat) (x1 : Int32) (x2 : Nat) (Φ : Hp → Int32 → Prop) : Prop := wL_drum_b0 x0 x1 x2 Φ S
set_option maxRecDepth 100000 in
theorem mL_drum {l : Launch} {G : Gw} (hl9 : l.stackTraces = false) {S : Hp} {x0 : Nat} {x1 : Int32} {x2 : Nat} {Φ : Hp → Int32 → Prop} (h : wL_drum S x0 x1 x2 Φ) : gW l yL_drum cL_drum 4 (some .int) [(0, 9, 12, 19), (0, 9, 15, 13)] rm_L_drum [.ref x0, .int x1, .ref x2] G S (PI Φ) := by
  unfold gW
  refine va_MetW (hh := [(0, 9, 12, 19), (0, 9, 15, 13)]) (cc := cL_drum) (maxL := 4) (ret := (some .int)) (by decide) rfl ?_
  intro p e s m args below meth c s₁ B hml hv
  obtain ⟨rfl, hw⟩ := hv
  obtain ⟨C0, Y, hO, ht9⟩ := mx_ofW B hml hw
  have hS : va_S (Ab G.b) s.heap s.heap [] := va_S.rf
  have hl := lv_entry ([.ref x0, .int x1, .ref x2]) (n := 4) (Nat.le_of_ble_eq_true rfl)
  rw [lg_entry_eq]
  generalize (lg_sl ([.ref x0, .int x1, .ref x2]) ++ List.replicate (4 - (lg_sl ([.ref x0, .int x1, .ref x2])).length) Slot.unset).toArray = ls at hl ⊢
  have hl : lv_has ls 4 [(0, .ref x0), (1, .int x1), (2, .ref x2)] := hl
  exact bL_drum_b0 C0 Y hl9 ht9 S _ _ _ 0 0 h hO hS hl (by decide) (by decide)

theorem hd_L_pin : nmOk yL_pin 6 := by unfold nmOk; decide +kernel
def rm_L_pin : Room := { frames := 8, cells := 3, slots := 18, locals := 137 }
def wL_pin_b0 (x0 : Nat) (x1 : Int32) (x2 : Int32) (x3 : Int32) (x4 : Int32) (x5 : Nat) (Φ : Hp → Int32 → Prop) (S : Hp) : Prop := isA S x0 7 ∧ wX7_pin S x0 x1 x2 x3 x4 (fun S1 r2 => ((r2 = 0 → isA S1 x5 22 ∧ vp_in 0 (S1.N x5) ∧ ∀ S7, S7 = S1.setAJ x5 ((0 : Int32).toNatClampNeg) 0 → Φ S7 0) ∧ (¬ (r2 = 0) → isA S1 x5 22 ∧ vp_in 0 (S1.N x5) ∧ ∀ S10, S10 = S1.setAJ x5 ((0 : Int32).toNatClampNeg) 1 → Φ S10 0))) (fun S9 E9 => (E9 = "java/lang/IndexOutOfBoundsException" ∧ Φ S9 1) ∨ (E9 = "java/lang/IllegalArgumentException" ∧ Φ S9 2))
set_option maxHeartbeats 4000000 in
set_option maxRecDepth 100000 in
theorem bL_pin_b0 {p : Program} {l : Launch} {e : Env} {s : State} {m : MethodId} {args : Array Value} {below : List Frame} {meth : Method} {c : Code} {G : Gw} {x0 : Nat} {x1 : Int32} {x2 : Int32} {x3 : Int32} {x4 : Int32} {x5 : Nat} {Φ : Hp → Int32 → Prop} (C0 : Mx p s m c cL_pin 7 args yL_pin.cls G) (Y : My meth (some .int)) (hl9 : l.stackTraces = false) (ht9 : c.exceptionTable.toList = tableOf [(0, 21, 24, 19), (0, 21, 28, 21)])  : ∀ (S : Hp) (H : Heap) (locs : List Loc) (ls : Array Slot) (cells slots : Nat), wL_pin_b0 x0 x1 x2 x3 x4 x5 Φ S → Ok G S H → va_S (Ab G.b) s.heap H locs → lv_has ls 7 [(0, .ref x0), (1, .int x1), (2, .int x2), (3, .int x3), (4, .int x4), (5, .ref x5)] → cells + (3) ≤ 3 → slots + (18) ≤ 18 → W p l e rm_L_pin s m args below meth c H locs cells slots (MQ below (gQ G (PI Φ)) args s rm_L_pin.cells rm_L_pin.slots (Ab G.b)) (F0 m 0 ls []) := by
  intro S H locs ls cells slots h hO hS hl hcc hss
  unfold wL_pin_b0 at h
  refine lv_aload C0.1 C0.2.1 dL_pin_0 (lv_at hl 5 rfl) ?_
  refine lv_iconst (v := 0) C0.1 C0.2.1 dL_pin_2 (by decide) ?_
  refine lv_aload_n C0.1 C0.2.1 dL_pin_3 rfl (lv_at hl 0 rfl) ?_
  refine lv_iload_n C0.1 C0.2.1 dL_pin_4 rfl (lv_at hl 1 rfl) ?_
  refine lv_iload_n C0.1 C0.2.1 dL_pin_5 rfl (lv_at hl 2 rfl) ?_
  refine lv_iload_n C0.1 C0.2.1 dL_pin_6 rfl (lv_at hl 3 rfl) ?_
  refine lv_iload C0.1 C0.2.1 dL_pin_7 (lv_at hl 4 rfl) ?_
  obtain ⟨i3, h⟩ := h
  refine y_V C0 hO hS (mX7_pin hl9 h) i3 (by decide) rfl rfl tb_1155 tb_1156 tb_1157 tb_74 tb_1158 hd_X7_pin rfl ⟨⟨by decide, by decide⟩, by show _ + 3 ≤ 3; omega, by show _ + 18 ≤ 18; omega⟩ hl.1 rfl (Nat.le_of_ble_eq_true rfl) dL_pin_9 (fun E9 ce9 q9 S9 H locs h hO hS hcell hv9 hcl => ?_) (kI (fun r2 S1 H locs h hO hS => ?_))
  · rcases h with ⟨rfl, h⟩ | ⟨rfl, h⟩
    · refine k_catch C0 ht9 (tableOf []) ⟨0, 21, 24, 19⟩ (tableOf [(0, 21, 28, 21)]) rfl (fun z hz => absurd hz (List.not_mem_nil)) rfl (by decide) tb_533 (by decide +kernel) hcell hv9 hcl ?_
      change W _ _ _ _ _ _ _ _ _ _ _ _ (_ + 3) (_ + 18) _ _
      refine lv_astore C0.1 C0.2.1 dL_pin_24 hl (by decide) rfl (fun ls hl => ?_)
      refine lv_iconst (v := 1) C0.1 C0.2.1 dL_pin_26 (by decide) ?_
      exact e_I C0 Y hO hS h (by show _ ≤ 3; omega) (by show _ ≤ 18; omega) dL_pin_27
    · refine k_catch C0 ht9 (tableOf [(0, 21, 24, 19)]) ⟨0, 21, 28, 21⟩ (tableOf []) rfl (List.forall_mem_cons.mpr ⟨no_of C0 (by decide) tb_533 (by decide +kernel), (fun z hz => absurd hz (List.not_mem_nil))⟩) rfl (by decide) tb_557 (by decide +kernel) hcell hv9 hcl ?_
      change W _ _ _ _ _ _ _ _ _ _ _ _ (_ + 3) (_ + 18) _ _
      refine lv_astore C0.1 C0.2.1 dL_pin_28 hl (by decide) rfl (fun ls hl => ?_)
      refine lv_iconst (v := 2) C0.1 C0.2.1 dL_pin_30 (by decide) ?_
      exact e_I C0 Y hO hS h (by show _ ≤ 3; omega) (by show _ ≤ 18; omega) dL_pin_31
  · change W _ _ _ _ _ _ _ _ _ _ _ _ (_ + 3) (_ + 18) _ _
    refine lv_if_eq (tgt := 19) C0.1 C0.2.1 dL_pin_12 (by decide) (fun c4 => ?_) (fun c4 => ?_)
    · have h := h.1 c4
      refine lv_lconst (v := 0) C0.1 C0.2.1 dL_pin_19 (by decide) ?_
      obtain ⟨i5, h⟩ := h
      obtain ⟨e6, h⟩ := h
      refine r_last C0 hO hS i5 e6 dL_pin_20 (fun H locs hO hS => ?_)
      have h := h _ rfl
      refine lv_goto (tgt := 32) C0.1 C0.2.1 dL_pin_21 (by decide) ?_
      refine lv_iconst (v := 0) C0.1 C0.2.1 dL_pin_32 (by decide) ?_
      exact e_I C0 Y hO hS h (by show _ ≤ 3; omega) (by show _ ≤ 18; omega) dL_pin_33
    · have h := h.2 c4
      refine lv_lconst (v := 1) C0.1 C0.2.1 dL_pin_15 (by decide) ?_
      refine lv_goto (tgt := 20) C0.1 C0.2.1 dL_pin_16 (by decide) ?_
      obtain ⟨i8, h⟩ := h
      obtain ⟨e9, h⟩ := h
      refine r_last C0 hO hS i8 e9 dL_pin_20 (fun H locs hO hS => ?_)
      have h := h _ rfl
      refine lv_goto (tgt := 32) C0.1 C0.2.1 dL_pin_21 (by decide) ?_
      refine lv_iconst (v := 0) C0.1 C0.2.1 dL_pin_32 (by decide) ?_
      exact e_I C0 Y hO hS h (by show _ ≤ 3; omega) (by show _ ≤ 18; omega) dL_pin_33
def wL_pin (S : Hp) (x0 : Nat) (x1 : Int32) (x2 : Int32) (x3 : Int32) (x4 : Int32) (x5 : Nat) (Φ : Hp → Int32 → Prop) : Prop := wL_pin_b0 x0 x1 x2 x3 x4 x5 Φ S
set_option maxRecDepth 100000 in
theorem mL_pin {l : Launch} {G : Gw} (hl9 : l.stackTraces = false) {S : Hp} {x0 : Nat} {x1 : Int32} {x2 : Int32} {x3 : Int32} {x4 : Int32} {x5 : Nat} {Φ : Hp → Int32 → Prop} (h : wL_pin S x0 x1 x2 x3 x4 x5 Φ) : gW l yL_pin cL_pin 7 (some .int) [(0, 21, 24, 19), (0, 21, 28, 21)] rm_L_pin [.ref x0, .int x1, .int x2, .int x3, .int x4, .ref x5] G S (PI Φ) := by
  unfold gW
  refine va_MetW (hh := [(0, 21, 24, 19), (0, 21, 28, 21)]) (cc := cL_pin) (maxL := 7) (ret := (some .int)) (by decide) rfl ?_
  intro p e s m args below meth c s₁ B hml hv
  obtain ⟨rfl, hw⟩ := hv
  obtain ⟨C0, Y, hO, ht9⟩ := mx_ofW B hml hw
  have hS : va_S (Ab G.b) s.heap s.heap [] := va_S.rf
  have hl := lv_entry ([.ref x0, .int x1, .int x2, .int x3, .int x4, .ref x5]) (n := 7) (Nat.le_of_ble_eq_true rfl)
  rw [lg_entry_eq]
  generalize (lg_sl ([.ref x0, .int x1, .int x2, .int x3, .int x4, .ref x5]) ++ List.replicate (7 - (lg_sl ([.ref x0, .int x1, .int x2, .int x3, .int x4, .ref x5])).length) Slot.unset).toArray = ls at hl ⊢
  have hl : lv_has ls 7 [(0, .ref x0), (1, .int x1), (2, .int x2), (3, .int x3), (4, .int x4), (5, .ref x5)] := hl
  exact bL_pin_b0 C0 Y hl9 ht9 S _ _ _ 0 0 h hO hS hl (by decide) (by decide)

theorem hd_L_struck : nmOk yL_struck 4 := by unfold nmOk; decide +kernel
def rm_L_struck : Room := { frames := 8, cells := 2, slots := 12, locals := 135 }
def wL_struck_b0 (x0 : Nat) (x1 : Int32) (x2 : Int32) (x3 : Nat) (Φ : Hp → Int32 → Prop) (S : Hp) : Prop := isA S x0 7 ∧ wX7_struck S x0 x1 x2 (fun S1 r2 => isA S1 x3 22 ∧ vp_in 0 (S1.N x3) ∧ ∀ S6, S6 = S1.setAJ x3 ((0 : Int32).toNatClampNeg) r2.toInt64 → Φ S6 0) (fun S9 E9 => (E9 = "java/lang/IndexOutOfBoundsException" ∧ Φ S9 1) ∨ (E9 = "java/lang/IllegalArgumentException" ∧ Φ S9 2))
set_option maxHeartbeats 4000000 in
set_option maxRecDepth 100000 in
theorem bL_struck_b0 {p : Program} {l : Launch} {e : Env} {s : State} {m : MethodId} {args : Array Value} {below : List Frame} {meth : Method} {c : Code} {G : Gw} {x0 : Nat} {x1 : Int32} {x2 : Int32} {x3 : Nat} {Φ : Hp → Int32 → Prop} (C0 : Mx p s m c cL_struck 5 args yL_struck.cls G) (Y : My meth (some .int)) (hl9 : l.stackTraces = false) (ht9 : c.exceptionTable.toList = tableOf [(0, 10, 13, 19), (0, 10, 17, 21)])  : ∀ (S : Hp) (H : Heap) (locs : List Loc) (ls : Array Slot) (cells slots : Nat), wL_struck_b0 x0 x1 x2 x3 Φ S → Ok G S H → va_S (Ab G.b) s.heap H locs → lv_has ls 5 [(0, .ref x0), (1, .int x1), (2, .int x2), (3, .ref x3)] → cells + (2) ≤ 2 → slots + (12) ≤ 12 → W p l e rm_L_struck s m args below meth c H locs cells slots (MQ below (gQ G (PI Φ)) args s rm_L_struck.cells rm_L_struck.slots (Ab G.b)) (F0 m 0 ls []) := by
  intro S H locs ls cells slots h hO hS hl hcc hss
  unfold wL_struck_b0 at h
  refine lv_aload_n C0.1 C0.2.1 dL_struck_0 rfl (lv_at hl 3 rfl) ?_
  refine lv_iconst (v := 0) C0.1 C0.2.1 dL_struck_1 (by decide) ?_
  refine lv_aload_n C0.1 C0.2.1 dL_struck_2 rfl (lv_at hl 0 rfl) ?_
  refine lv_iload_n C0.1 C0.2.1 dL_struck_3 rfl (lv_at hl 1 rfl) ?_
  refine lv_iload_n C0.1 C0.2.1 dL_struck_4 rfl (lv_at hl 2 rfl) ?_
  obtain ⟨i3, h⟩ := h
  refine y_V C0 hO hS (mX7_struck hl9 h) i3 (by decide) rfl rfl tb_1171 tb_1172 tb_1173 tb_74 tb_1174 hd_X7_struck rfl ⟨⟨by decide, by decide⟩, by show _ + 2 ≤ 2; omega, by show _ + 12 ≤ 12; omega⟩ hl.1 rfl (Nat.le_of_ble_eq_true rfl) dL_struck_5 (fun E9 ce9 q9 S9 H locs h hO hS hcell hv9 hcl => ?_) (kI (fun r2 S1 H locs h hO hS => ?_))
  · rcases h with ⟨rfl, h⟩ | ⟨rfl, h⟩
    · refine k_catch C0 ht9 (tableOf []) ⟨0, 10, 13, 19⟩ (tableOf [(0, 10, 17, 21)]) rfl (fun z hz => absurd hz (List.not_mem_nil)) rfl (by decide) tb_533 (by decide +kernel) hcell hv9 hcl ?_
      change W _ _ _ _ _ _ _ _ _ _ _ _ (_ + 2) (_ + 12) _ _
      refine lv_astore C0.1 C0.2.1 dL_struck_13 hl (by decide) rfl (fun ls hl => ?_)
      refine lv_iconst (v := 1) C0.1 C0.2.1 dL_struck_15 (by decide) ?_
      exact e_I C0 Y hO hS h (by show _ ≤ 2; omega) (by show _ ≤ 12; omega) dL_struck_16
    · refine k_catch C0 ht9 (tableOf [(0, 10, 13, 19)]) ⟨0, 10, 17, 21⟩ (tableOf []) rfl (List.forall_mem_cons.mpr ⟨no_of C0 (by decide) tb_533 (by decide +kernel), (fun z hz => absurd hz (List.not_mem_nil))⟩) rfl (by decide) tb_557 (by decide +kernel) hcell hv9 hcl ?_
      change W _ _ _ _ _ _ _ _ _ _ _ _ (_ + 2) (_ + 12) _ _
      refine lv_astore C0.1 C0.2.1 dL_struck_17 hl (by decide) rfl (fun ls hl => ?_)
      refine lv_iconst (v := 2) C0.1 C0.2.1 dL_struck_19 (by decide) ?_
      exact e_I C0 Y hO hS h (by show _ ≤ 2; omega) (by show _ ≤ 12; omega) dL_struck_20
  · change W _ _ _ _ _ _ _ _ _ _ _ _ (_ + 2) (_ + 12) _ _
    refine lv_i2l C0.1 C0.2.1 dL_struck_8 rfl ?_
    obtain ⟨i4, h⟩ := h
    obtain ⟨e5, h⟩ := h
    refine r_last C0 hO hS i4 e5 dL_struck_9 (fun H locs hO hS => ?_)
    have h := h _ rfl
    refine lv_goto (tgt := 21) C0.1 C0.2.1 dL_struck_10 (by decide) ?_
    refine lv_iconst (v := 0) C0.1 C0.2.1 dL_struck_21 (by decide) ?_
    exact e_I C0 Y hO hS h (by show _ ≤ 2; omega) (by show _ ≤ 12; omega) dL_struck_22
def wL_struck (S : Hp) (x0 : Nat) (x1 : Int32) (x2 : Int32) (x3 : Nat) (Φ : Hp → Int32 → Prop) : Prop := wL_struck_b0 x0 x1 x2 x3 Φ S
set_option maxRecDepth 100000 in
theorem mL_struck {l : Launch} {G : Gw} (hl9 : l.stackTraces = false) {S : Hp} {x0 : Nat} {x1 : Int32} {x2 : Int32} {x3 : Nat} {Φ : Hp → Int32 → Prop} (h : wL_struck S x0 x1 x2 x3 Φ) : gW l yL_struck cL_struck 5 (some .int) [(0, 10, 13, 19), (0, 10, 17, 21)] rm_L_struck [.ref x0, .int x1, .int x2, .ref x3] G S (PI Φ) := by
  unfold gW
  refine va_MetW (hh := [(0, 10, 13, 19), (0, 10, 17, 21)]) (cc := cL_struck) (maxL := 5) (ret := (some .int)) (by decide) rfl ?_
  intro p e s m args below meth c s₁ B hml hv
  obtain ⟨rfl, hw⟩ := hv
  obtain ⟨C0, Y, hO, ht9⟩ := mx_ofW B hml hw
  have hS : va_S (Ab G.b) s.heap s.heap [] := va_S.rf
  have hl := lv_entry ([.ref x0, .int x1, .int x2, .ref x3]) (n := 5) (Nat.le_of_ble_eq_true rfl)
  rw [lg_entry_eq]
  generalize (lg_sl ([.ref x0, .int x1, .int x2, .ref x3]) ++ List.replicate (5 - (lg_sl ([.ref x0, .int x1, .int x2, .ref x3])).length) Slot.unset).toArray = ls at hl ⊢
  have hl : lv_has ls 5 [(0, .ref x0), (1, .int x1), (2, .int x2), (3, .ref x3)] := hl
  exact bL_struck_b0 C0 Y hl9 ht9 S _ _ _ 0 0 h hO hS hl (by decide) (by decide)

theorem hd_L_bars : nmOk yL_bars 6 := by unfold nmOk; decide +kernel
def rm_L_bars : Room := { frames := 9, cells := 5, slots := 28, locals := 159 }
def wL_bars_b0 (x0 : Nat) (x1 : Int32) (x2 : Int32) (x3 : Int32) (x4 : Int32) (x5 : Nat) (Φ : Hp → Int32 → Prop) (S : Hp) : Prop := isA S x0 7 ∧ wX7_bars S x0 x1 x2 x3 x4 (fun S1 r2 => isA S1 x5 22 ∧ vp_in 0 (S1.N x5) ∧ ∀ S6, S6 = S1.setAJ x5 ((0 : Int32).toNatClampNeg) r2.toInt64 → Φ S6 0) (fun S9 E9 => (E9 = "java/lang/IllegalArgumentException" ∧ Φ S9 1))
set_option maxHeartbeats 4000000 in
set_option maxRecDepth 100000 in
theorem bL_bars_b0 {p : Program} {l : Launch} {e : Env} {s : State} {m : MethodId} {args : Array Value} {below : List Frame} {meth : Method} {c : Code} {G : Gw} {x0 : Nat} {x1 : Int32} {x2 : Int32} {x3 : Int32} {x4 : Int32} {x5 : Nat} {Φ : Hp → Int32 → Prop} (C0 : Mx p s m c cL_bars 7 args yL_bars.cls G) (Y : My meth (some .int)) (hl9 : l.stackTraces = false) (ht9 : c.exceptionTable.toList = tableOf [(0, 14, 17, 21)])  : ∀ (S : Hp) (H : Heap) (locs : List Loc) (ls : Array Slot) (cells slots : Nat), wL_bars_b0 x0 x1 x2 x3 x4 x5 Φ S → Ok G S H → va_S (Ab G.b) s.heap H locs → lv_has ls 7 [(0, .ref x0), (1, .int x1), (2, .int x2), (3, .int x3), (4, .int x4), (5, .ref x5)] → cells + (5) ≤ 5 → slots + (28) ≤ 28 → W p l e rm_L_bars s m args below meth c H locs cells slots (MQ below (gQ G (PI Φ)) args s rm_L_bars.cells rm_L_bars.slots (Ab G.b)) (F0 m 0 ls []) := by
  intro S H locs ls cells slots h hO hS hl hcc hss
  unfold wL_bars_b0 at h
  refine lv_aload C0.1 C0.2.1 dL_bars_0 (lv_at hl 5 rfl) ?_
  refine lv_iconst (v := 0) C0.1 C0.2.1 dL_bars_2 (by decide) ?_
  refine lv_aload_n C0.1 C0.2.1 dL_bars_3 rfl (lv_at hl 0 rfl) ?_
  refine lv_iload_n C0.1 C0.2.1 dL_bars_4 rfl (lv_at hl 1 rfl) ?_
  refine lv_iload_n C0.1 C0.2.1 dL_bars_5 rfl (lv_at hl 2 rfl) ?_
  refine lv_iload_n C0.1 C0.2.1 dL_bars_6 rfl (lv_at hl 3 rfl) ?_
  refine lv_iload C0.1 C0.2.1 dL_bars_7 (lv_at hl 4 rfl) ?_
  obtain ⟨i3, h⟩ := h
  refine y_V C0 hO hS (mX7_bars hl9 h) i3 (by decide) rfl rfl tb_1178 tb_1179 tb_1180 tb_74 tb_1181 hd_X7_bars rfl ⟨⟨by decide, by decide⟩, by show _ + 5 ≤ 5; omega, by show _ + 28 ≤ 28; omega⟩ hl.1 rfl (Nat.le_of_ble_eq_true rfl) dL_bars_9 (fun E9 ce9 q9 S9 H locs h hO hS hcell hv9 hcl => ?_) (kI (fun r2 S1 H locs h hO hS => ?_))
  · rcases h with ⟨rfl, h⟩
    · refine k_catch C0 ht9 (tableOf []) ⟨0, 14, 17, 21⟩ (tableOf []) rfl (fun z hz => absurd hz (List.not_mem_nil)) rfl (by decide) tb_557 (by decide +kernel) hcell hv9 hcl ?_
      change W _ _ _ _ _ _ _ _ _ _ _ _ (_ + 5) (_ + 28) _ _
      refine lv_astore C0.1 C0.2.1 dL_bars_17 hl (by decide) rfl (fun ls hl => ?_)
      refine lv_iconst (v := 1) C0.1 C0.2.1 dL_bars_19 (by decide) ?_
      exact e_I C0 Y hO hS h (by show _ ≤ 5; omega) (by show _ ≤ 28; omega) dL_bars_20
  · change W _ _ _ _ _ _ _ _ _ _ _ _ (_ + 5) (_ + 28) _ _
    refine lv_i2l C0.1 C0.2.1 dL_bars_12 rfl ?_
    obtain ⟨i4, h⟩ := h
    obtain ⟨e5, h⟩ := h
    refine r_last C0 hO hS i4 e5 dL_bars_13 (fun H locs hO hS => ?_)
    have h := h _ rfl
    refine lv_goto (tgt := 21) C0.1 C0.2.1 dL_bars_14 (by decide) ?_
    refine lv_iconst (v := 0) C0.1 C0.2.1 dL_bars_21 (by decide) ?_
    exact e_I C0 Y hO hS h (by show _ ≤ 5; omega) (by show _ ≤ 28; omega) dL_bars_22
def wL_bars (S : Hp) (x0 : Nat) (x1 : Int32) (x2 : Int32) (x3 : Int32) (x4 : Int32) (x5 : Nat) (Φ : Hp → Int32 → Prop) : Prop := wL_bars_b0 x0 x1 x2 x3 x4 x5 Φ S
set_option maxRecDepth 100000 in
theorem mL_bars {l : Launch} {G : Gw} (hl9 : l.stackTraces = false) {S : Hp} {x0 : Nat} {x1 : Int32} {x2 : Int32} {x3 : Int32} {x4 : Int32} {x5 : Nat} {Φ : Hp → Int32 → Prop} (h : wL_bars S x0 x1 x2 x3 x4 x5 Φ) : gW l yL_bars cL_bars 7 (some .int) [(0, 14, 17, 21)] rm_L_bars [.ref x0, .int x1, .int x2, .int x3, .int x4, .ref x5] G S (PI Φ) := by
  unfold gW
  refine va_MetW (hh := [(0, 14, 17, 21)]) (cc := cL_bars) (maxL := 7) (ret := (some .int)) (by decide) rfl ?_
  intro p e s m args below meth c s₁ B hml hv
  obtain ⟨rfl, hw⟩ := hv
  obtain ⟨C0, Y, hO, ht9⟩ := mx_ofW B hml hw
  have hS : va_S (Ab G.b) s.heap s.heap [] := va_S.rf
  have hl := lv_entry ([.ref x0, .int x1, .int x2, .int x3, .int x4, .ref x5]) (n := 7) (Nat.le_of_ble_eq_true rfl)
  rw [lg_entry_eq]
  generalize (lg_sl ([.ref x0, .int x1, .int x2, .int x3, .int x4, .ref x5]) ++ List.replicate (7 - (lg_sl ([.ref x0, .int x1, .int x2, .int x3, .int x4, .ref x5])).length) Slot.unset).toArray = ls at hl ⊢
  have hl : lv_has ls 7 [(0, .ref x0), (1, .int x1), (2, .int x2), (3, .int x3), (4, .int x4), (5, .ref x5)] := hl
  exact bL_bars_b0 C0 Y hl9 ht9 S _ _ _ 0 0 h hO hS hl (by decide) (by decide)

theorem hd_L_limitOver : nmOk yL_limitOver 7 := by unfold nmOk; decide +kernel
def rm_L_limitOver : Room := { frames := 9, cells := 7, slots := 36, locals := 160 }
def wL_limitOver_b0 (x0 : Nat) (x1 : Int32) (x2 : Int32) (x3 : Int32) (x4 : Int32) (x5 : Int32) (x6 : Nat) (Φ : Hp → Int32 → Prop) (S : Hp) : Prop := isA S x0 7 ∧ wX7_limitOver S x0 x1 x2 x3 x4 x5 (fun S1 r2 => isA S1 x6 22 ∧ vp_in 0 (S1.N x6) ∧ ∀ S6, S6 = S1.setAJ x6 ((0 : Int32).toNatClampNeg) r2 → Φ S6 0) (fun S9 E9 => (E9 = "java/lang/IllegalArgumentException" ∧ Φ S9 1) ∨ (E9 = "java/util/NoSuchElementException" ∧ Φ S9 2))
set_option maxHeartbeats 4000000 in
set_option maxRecDepth 100000 in
theorem bL_limitOver_b0 {p : Program} {l : Launch} {e : Env} {s : State} {m : MethodId} {args : Array Value} {below : List Frame} {meth : Method} {c : Code} {G : Gw} {x0 : Nat} {x1 : Int32} {x2 : Int32} {x3 : Int32} {x4 : Int32} {x5 : Int32} {x6 : Nat} {Φ : Hp → Int32 → Prop} (C0 : Mx p s m c cL_limitOver 8 args yL_limitOver.cls G) (Y : My meth (some .int)) (hl9 : l.stackTraces = false) (ht9 : c.exceptionTable.toList = tableOf [(0, 15, 18, 21), (0, 15, 22, 61)])  : ∀ (S : Hp) (H : Heap) (locs : List Loc) (ls : Array Slot) (cells slots : Nat), wL_limitOver_b0 x0 x1 x2 x3 x4 x5 x6 Φ S → Ok G S H → va_S (Ab G.b) s.heap H locs → lv_has ls 8 [(0, .ref x0), (1, .int x1), (2, .int x2), (3, .int x3), (4, .int x4), (5, .int x5), (6, .ref x6)] → cells + (7) ≤ 7 → slots + (36) ≤ 36 → W p l e rm_L_limitOver s m args below meth c H locs cells slots (MQ below (gQ G (PI Φ)) args s rm_L_limitOver.cells rm_L_limitOver.slots (Ab G.b)) (F0 m 0 ls []) := by
  intro S H locs ls cells slots h hO hS hl hcc hss
  unfold wL_limitOver_b0 at h
  refine lv_aload C0.1 C0.2.1 dL_limitOver_0 (lv_at hl 6 rfl) ?_
  refine lv_iconst (v := 0) C0.1 C0.2.1 dL_limitOver_2 (by decide) ?_
  refine lv_aload_n C0.1 C0.2.1 dL_limitOver_3 rfl (lv_at hl 0 rfl) ?_
  refine lv_iload_n C0.1 C0.2.1 dL_limitOver_4 rfl (lv_at hl 1 rfl) ?_
  refine lv_iload_n C0.1 C0.2.1 dL_limitOver_5 rfl (lv_at hl 2 rfl) ?_
  refine lv_iload_n C0.1 C0.2.1 dL_limitOver_6 rfl (lv_at hl 3 rfl) ?_
  refine lv_iload C0.1 C0.2.1 dL_limitOver_7 (lv_at hl 4 rfl) ?_
  refine lv_iload C0.1 C0.2.1 dL_limitOver_9 (lv_at hl 5 rfl) ?_
  obtain ⟨i3, h⟩ := h
  refine y_V C0 hO hS (mX7_limitOver hl9 h) i3 (by decide) rfl rfl tb_1217 tb_1218 tb_1219 tb_74 tb_1220 hd_X7_limitOver rfl ⟨⟨by decide, by decide⟩, by show _ + 7 ≤ 7; omega, by show _ + 36 ≤ 36; omega⟩ hl.1 rfl (Nat.le_of_ble_eq_true rfl) dL_limitOver_11 (fun E9 ce9 q9 S9 H locs h hO hS hcell hv9 hcl => ?_) (kJ (fun r2 S1 H locs h hO hS => ?_))
  · rcases h with ⟨rfl, h⟩ | ⟨rfl, h⟩
    · refine k_catch C0 ht9 (tableOf []) ⟨0, 15, 18, 21⟩ (tableOf [(0, 15, 22, 61)]) rfl (fun z hz => absurd hz (List.not_mem_nil)) rfl (by decide) tb_557 (by decide +kernel) hcell hv9 hcl ?_
      change W _ _ _ _ _ _ _ _ _ _ _ _ (_ + 7) (_ + 36) _ _
      refine lv_astore C0.1 C0.2.1 dL_limitOver_18 hl (by decide) rfl (fun ls hl => ?_)
      refine lv_iconst (v := 1) C0.1 C0.2.1 dL_limitOver_20 (by decide) ?_
      exact e_I C0 Y hO hS h (by show _ ≤ 7; omega) (by show _ ≤ 36; omega) dL_limitOver_21
    · refine k_catch C0 ht9 (tableOf [(0, 15, 18, 21)]) ⟨0, 15, 22, 61⟩ (tableOf []) rfl (List.forall_mem_cons.mpr ⟨no_of C0 (by decide) tb_557 (by decide +kernel), (fun z hz => absurd hz (List.not_mem_nil))⟩) rfl (by decide) tb_900 (by decide +kernel) hcell hv9 hcl ?_
      change W _ _ _ _ _ _ _ _ _ _ _ _ (_ + 7) (_ + 36) _ _
      refine lv_astore C0.1 C0.2.1 dL_limitOver_22 hl (by decide) rfl (fun ls hl => ?_)
      refine lv_iconst (v := 2) C0.1 C0.2.1 dL_limitOver_24 (by decide) ?_
      exact e_I C0 Y hO hS h (by show _ ≤ 7; omega) (by show _ ≤ 36; omega) dL_limitOver_25
  · change W _ _ _ _ _ _ _ _ _ _ _ _ (_ + 7) (_ + 36) _ _
    obtain ⟨i4, h⟩ := h
    obtain ⟨e5, h⟩ := h
    refine r_last C0 hO hS i4 e5 dL_limitOver_14 (fun H locs hO hS => ?_)
    have h := h _ rfl
    refine lv_goto (tgt := 26) C0.1 C0.2.1 dL_limitOver_15 (by decide) ?_
    refine lv_iconst (v := 0) C0.1 C0.2.1 dL_limitOver_26 (by decide) ?_
    exact e_I C0 Y hO hS h (by show _ ≤ 7; omega) (by show _ ≤ 36; omega) dL_limitOver_27
def wL_limitOver (S : Hp) (x0 : Nat) (x1 : Int32) (x2 : Int32) (x3 : Int32) (x4 : Int32) (x5 : Int32) (x6 : Nat) (Φ : Hp → Int32 → Prop) : Prop := wL_limitOver_b0 x0 x1 x2 x3 x4 x5 x6 Φ S
set_option maxRecDepth 100000 in
theorem mL_limitOver {l : Launch} {G : Gw} (hl9 : l.stackTraces = false) {S : Hp} {x0 : Nat} {x1 : Int32} {x2 : Int32} {x3 : Int32} {x4 : Int32} {x5 : Int32} {x6 : Nat} {Φ : Hp → Int32 → Prop} (h : wL_limitOver S x0 x1 x2 x3 x4 x5 x6 Φ) : gW l yL_limitOver cL_limitOver 8 (some .int) [(0, 15, 18, 21), (0, 15, 22, 61)] rm_L_limitOver [.ref x0, .int x1, .int x2, .int x3, .int x4, .int x5, .ref x6] G S (PI Φ) := by
  unfold gW
  refine va_MetW (hh := [(0, 15, 18, 21), (0, 15, 22, 61)]) (cc := cL_limitOver) (maxL := 8) (ret := (some .int)) (by decide) rfl ?_
  intro p e s m args below meth c s₁ B hml hv
  obtain ⟨rfl, hw⟩ := hv
  obtain ⟨C0, Y, hO, ht9⟩ := mx_ofW B hml hw
  have hS : va_S (Ab G.b) s.heap s.heap [] := va_S.rf
  have hl := lv_entry ([.ref x0, .int x1, .int x2, .int x3, .int x4, .int x5, .ref x6]) (n := 8) (Nat.le_of_ble_eq_true rfl)
  rw [lg_entry_eq]
  generalize (lg_sl ([.ref x0, .int x1, .int x2, .int x3, .int x4, .int x5, .ref x6]) ++ List.replicate (8 - (lg_sl ([.ref x0, .int x1, .int x2, .int x3, .int x4, .int x5, .ref x6])).length) Slot.unset).toArray = ls at hl ⊢
  have hl : lv_has ls 8 [(0, .ref x0), (1, .int x1), (2, .int x2), (3, .int x3), (4, .int x4), (5, .int x5), (6, .ref x6)] := hl
  exact bL_limitOver_b0 C0 Y hl9 ht9 S _ _ _ 0 0 h hO hS hl (by decide) (by decide)

theorem hd_L_limitUnder : nmOk yL_limitUnder 7 := by unfold nmOk; decide +kernel
def rm_L_limitUnder : Room := { frames := 9, cells := 7, slots := 36, locals := 160 }
def wL_limitUnder_b0 (x0 : Nat) (x1 : Int32) (x2 : Int32) (x3 : Int32) (x4 : Int32) (x5 : Int32) (x6 : Nat) (Φ : Hp → Int32 → Prop) (S : Hp) : Prop := isA S x0 7 ∧ wX7_limitUnder S x0 x1 x2 x3 x4 x5 (fun S1 r2 => isA S1 x6 22 ∧ vp_in 0 (S1.N x6) ∧ ∀ S6, S6 = S1.setAJ x6 ((0 : Int32).toNatClampNeg) r2 → Φ S6 0) (fun S9 E9 => (E9 = "java/lang/IllegalArgumentException" ∧ Φ S9 1) ∨ (E9 = "java/util/NoSuchElementException" ∧ Φ S9 2))
set_option maxHeartbeats 4000000 in
set_option maxRecDepth 100000 in
theorem bL_limitUnder_b0 {p : Program} {l : Launch} {e : Env} {s : State} {m : MethodId} {args : Array Value} {below : List Frame} {meth : Method} {c : Code} {G : Gw} {x0 : Nat} {x1 : Int32} {x2 : Int32} {x3 : Int32} {x4 : Int32} {x5 : Int32} {x6 : Nat} {Φ : Hp → Int32 → Prop} (C0 : Mx p s m c cL_limitUnder 8 args yL_limitUnder.cls G) (Y : My meth (some .int)) (hl9 : l.stackTraces = false) (ht9 : c.exceptionTable.toList = tableOf [(0, 15, 18, 21), (0, 15, 22, 61)])  : ∀ (S : Hp) (H : Heap) (locs : List Loc) (ls : Array Slot) (cells slots : Nat), wL_limitUnder_b0 x0 x1 x2 x3 x4 x5 x6 Φ S → Ok G S H → va_S (Ab G.b) s.heap H locs → lv_has ls 8 [(0, .ref x0), (1, .int x1), (2, .int x2), (3, .int x3), (4, .int x4), (5, .int x5), (6, .ref x6)] → cells + (7) ≤ 7 → slots + (36) ≤ 36 → W p l e rm_L_limitUnder s m args below meth c H locs cells slots (MQ below (gQ G (PI Φ)) args s rm_L_limitUnder.cells rm_L_limitUnder.slots (Ab G.b)) (F0 m 0 ls []) := by
  intro S H locs ls cells slots h hO hS hl hcc hss
  unfold wL_limitUnder_b0 at h
  refine lv_aload C0.1 C0.2.1 dL_limitUnder_0 (lv_at hl 6 rfl) ?_
  refine lv_iconst (v := 0) C0.1 C0.2.1 dL_limitUnder_2 (by decide) ?_
  refine lv_aload_n C0.1 C0.2.1 dL_limitUnder_3 rfl (lv_at hl 0 rfl) ?_
  refine lv_iload_n C0.1 C0.2.1 dL_limitUnder_4 rfl (lv_at hl 1 rfl) ?_
  refine lv_iload_n C0.1 C0.2.1 dL_limitUnder_5 rfl (lv_at hl 2 rfl) ?_
  refine lv_iload_n C0.1 C0.2.1 dL_limitUnder_6 rfl (lv_at hl 3 rfl) ?_
  refine lv_iload C0.1 C0.2.1 dL_limitUnder_7 (lv_at hl 4 rfl) ?_
  refine lv_iload C0.1 C0.2.1 dL_limitUnder_9 (lv_at hl 5 rfl) ?_
  obtain ⟨i3, h⟩ := h
  refine y_V C0 hO hS (mX7_limitUnder hl9 h) i3 (by decide) rfl rfl tb_1240 tb_1241 tb_1242 tb_74 tb_1243 hd_X7_limitUnder rfl ⟨⟨by decide, by decide⟩, by show _ + 7 ≤ 7; omega, by show _ + 36 ≤ 36; omega⟩ hl.1 rfl (Nat.le_of_ble_eq_true rfl) dL_limitUnder_11 (fun E9 ce9 q9 S9 H locs h hO hS hcell hv9 hcl => ?_) (kJ (fun r2 S1 H locs h hO hS => ?_))
  · rcases h with ⟨rfl, h⟩ | ⟨rfl, h⟩
    · refine k_catch C0 ht9 (tableOf []) ⟨0, 15, 18, 21⟩ (tableOf [(0, 15, 22, 61)]) rfl (fun z hz => absurd hz (List.not_mem_nil)) rfl (by decide) tb_557 (by decide +kernel) hcell hv9 hcl ?_
      change W _ _ _ _ _ _ _ _ _ _ _ _ (_ + 7) (_ + 36) _ _
      refine lv_astore C0.1 C0.2.1 dL_limitUnder_18 hl (by decide) rfl (fun ls hl => ?_)
      refine lv_iconst (v := 1) C0.1 C0.2.1 dL_limitUnder_20 (by decide) ?_
      exact e_I C0 Y hO hS h (by show _ ≤ 7; omega) (by show _ ≤ 36; omega) dL_limitUnder_21
    · refine k_catch C0 ht9 (tableOf [(0, 15, 18, 21)]) ⟨0, 15, 22, 61⟩ (tableOf []) rfl (List.forall_mem_cons.mpr ⟨no_of C0 (by decide) tb_557 (by decide +kernel), (fun z hz => absurd hz (List.not_mem_nil))⟩) rfl (by decide) tb_900 (by decide +kernel) hcell hv9 hcl ?_
      change W _ _ _ _ _ _ _ _ _ _ _ _ (_ + 7) (_ + 36) _ _
      refine lv_astore C0.1 C0.2.1 dL_limitUnder_22 hl (by decide) rfl (fun ls hl => ?_)
      refine lv_iconst (v := 2) C0.1 C0.2.1 dL_limitUnder_24 (by decide) ?_
      exact e_I C0 Y hO hS h (by show _ ≤ 7; omega) (by show _ ≤ 36; omega) dL_limitUnder_25
  · change W _ _ _ _ _ _ _ _ _ _ _ _ (_ + 7) (_ + 36) _ _
    obtain ⟨i4, h⟩ := h
    obtain ⟨e5, h⟩ := h
    refine r_last C0 hO hS i4 e5 dL_limitUnder_14 (fun H locs hO hS => ?_)
    have h := h _ rfl
    refine lv_goto (tgt := 26) C0.1 C0.2.1 dL_limitUnder_15 (by decide) ?_
    refine lv_iconst (v := 0) C0.1 C0.2.1 dL_limitUnder_26 (by decide) ?_
    exact e_I C0 Y hO hS h (by show _ ≤ 7; omega) (by show _ ≤ 36; omega) dL_limitUnder_27
def wL_limitUnder (S : Hp) (x0 : Nat) (x1 : Int32) (x2 : Int32) (x3 : Int32) (x4 : Int32) (x5 : Int32) (x6 : Nat) (Φ : Hp → Int32 → Prop) : Prop := wL_limitUnder_b0 x0 x1 x2 x3 x4 x5 x6 Φ S
set_option maxRecDepth 100000 in
theorem mL_limitUnder {l : Launch} {G : Gw} (hl9 : l.stackTraces = false) {S : Hp} {x0 : Nat} {x1 : Int32} {x2 : Int32} {x3 : Int32} {x4 : Int32} {x5 : Int32} {x6 : Nat} {Φ : Hp → Int32 → Prop} (h : wL_limitUnder S x0 x1 x2 x3 x4 x5 x6 Φ) : gW l yL_limitUnder cL_limitUnder 8 (some .int) [(0, 15, 18, 21), (0, 15, 22, 61)] rm_L_limitUnder [.ref x0, .int x1, .int x2, .int x3, .int x4, .int x5, .ref x6] G S (PI Φ) := by
  unfold gW
  refine va_MetW (hh := [(0, 15, 18, 21), (0, 15, 22, 61)]) (cc := cL_limitUnder) (maxL := 8) (ret := (some .int)) (by decide) rfl ?_
  intro p e s m args below meth c s₁ B hml hv
  obtain ⟨rfl, hw⟩ := hv
  obtain ⟨C0, Y, hO, ht9⟩ := mx_ofW B hml hw
  have hS : va_S (Ab G.b) s.heap s.heap [] := va_S.rf
  have hl := lv_entry ([.ref x0, .int x1, .int x2, .int x3, .int x4, .int x5, .ref x6]) (n := 8) (Nat.le_of_ble_eq_true rfl)
  rw [lg_entry_eq]
  generalize (lg_sl ([.ref x0, .int x1, .int x2, .int x3, .int x4, .int x5, .ref x6]) ++ List.replicate (8 - (lg_sl ([.ref x0, .int x1, .int x2, .int x3, .int x4, .int x5, .ref x6])).length) Slot.unset).toArray = ls at hl ⊢
  have hl : lv_has ls 8 [(0, .ref x0), (1, .int x1), (2, .int x2), (3, .int x3), (4, .int x4), (5, .int x5), (6, .ref x6)] := hl
  exact bL_limitUnder_b0 C0 Y hl9 ht9 S _ _ _ 0 0 h hO hS hl (by decide) (by decide)

theorem hd_L_angleOver : nmOk yL_angleOver 7 := by unfold nmOk; decide +kernel
def rm_L_angleOver : Room := { frames := 9, cells := 7, slots := 36, locals := 160 }
def wL_angleOver_b0 (x0 : Nat) (x1 : Int32) (x2 : Int32) (x3 : Int32) (x4 : Int32) (x5 : Int32) (x6 : Nat) (Φ : Hp → Int32 → Prop) (S : Hp) : Prop := isA S x0 7 ∧ wX7_angleOver S x0 x1 x2 x3 x4 x5 (fun S1 r2 => isA S1 x6 22 ∧ vp_in 0 (S1.N x6) ∧ ∀ S6, S6 = S1.setAJ x6 ((0 : Int32).toNatClampNeg) r2 → Φ S6 0) (fun S9 E9 => (E9 = "java/lang/IllegalArgumentException" ∧ Φ S9 1) ∨ (E9 = "java/util/NoSuchElementException" ∧ Φ S9 2))
set_option maxHeartbeats 4000000 in
set_option maxRecDepth 100000 in
theorem bL_angleOver_b0 {p : Program} {l : Launch} {e : Env} {s : State} {m : MethodId} {args : Array Value} {below : List Frame} {meth : Method} {c : Code} {G : Gw} {x0 : Nat} {x1 : Int32} {x2 : Int32} {x3 : Int32} {x4 : Int32} {x5 : Int32} {x6 : Nat} {Φ : Hp → Int32 → Prop} (C0 : Mx p s m c cL_angleOver 8 args yL_angleOver.cls G) (Y : My meth (some .int)) (hl9 : l.stackTraces = false) (ht9 : c.exceptionTable.toList = tableOf [(0, 15, 18, 21), (0, 15, 22, 61)])  : ∀ (S : Hp) (H : Heap) (locs : List Loc) (ls : Array Slot) (cells slots : Nat), wL_angleOver_b0 x0 x1 x2 x3 x4 x5 x6 Φ S → Ok G S H → va_S (Ab G.b) s.heap H locs → lv_has ls 8 [(0, .ref x0), (1, .int x1), (2, .int x2), (3, .int x3), (4, .int x4), (5, .int x5), (6, .ref x6)] → cells + (7) ≤ 7 → slots + (36) ≤ 36 → W p l e rm_L_angleOver s m args below meth c H locs cells slots (MQ below (gQ G (PI Φ)) args s rm_L_angleOver.cells rm_L_angleOver.slots (Ab G.b)) (F0 m 0 ls []) := by
  intro S H locs ls cells slots h hO hS hl hcc hss
  unfold wL_angleOver_b0 at h
  refine lv_aload C0.1 C0.2.1 dL_angleOver_0 (lv_at hl 6 rfl) ?_
  refine lv_iconst (v := 0) C0.1 C0.2.1 dL_angleOver_2 (by decide) ?_
  refine lv_aload_n C0.1 C0.2.1 dL_angleOver_3 rfl (lv_at hl 0 rfl) ?_
  refine lv_iload_n C0.1 C0.2.1 dL_angleOver_4 rfl (lv_at hl 1 rfl) ?_
  refine lv_iload_n C0.1 C0.2.1 dL_angleOver_5 rfl (lv_at hl 2 rfl) ?_
  refine lv_iload_n C0.1 C0.2.1 dL_angleOver_6 rfl (lv_at hl 3 rfl) ?_
  refine lv_iload C0.1 C0.2.1 dL_angleOver_7 (lv_at hl 4 rfl) ?_
  refine lv_iload C0.1 C0.2.1 dL_angleOver_9 (lv_at hl 5 rfl) ?_
  obtain ⟨i3, h⟩ := h
  refine y_V C0 hO hS (mX7_angleOver hl9 h) i3 (by decide) rfl rfl tb_1247 tb_1248 tb_1249 tb_74 tb_1250 hd_X7_angleOver rfl ⟨⟨by decide, by decide⟩, by show _ + 7 ≤ 7; omega, by show _ + 36 ≤ 36; omega⟩ hl.1 rfl (Nat.le_of_ble_eq_true rfl) dL_angleOver_11 (fun E9 ce9 q9 S9 H locs h hO hS hcell hv9 hcl => ?_) (kJ (fun r2 S1 H locs h hO hS => ?_))
  · rcases h with ⟨rfl, h⟩ | ⟨rfl, h⟩
    · refine k_catch C0 ht9 (tableOf []) ⟨0, 15, 18, 21⟩ (tableOf [(0, 15, 22, 61)]) rfl (fun z hz => absurd hz (List.not_mem_nil)) rfl (by decide) tb_557 (by decide +kernel) hcell hv9 hcl ?_
      change W _ _ _ _ _ _ _ _ _ _ _ _ (_ + 7) (_ + 36) _ _
      refine lv_astore C0.1 C0.2.1 dL_angleOver_18 hl (by decide) rfl (fun ls hl => ?_)
      refine lv_iconst (v := 1) C0.1 C0.2.1 dL_angleOver_20 (by decide) ?_
      exact e_I C0 Y hO hS h (by show _ ≤ 7; omega) (by show _ ≤ 36; omega) dL_angleOver_21
    · refine k_catch C0 ht9 (tableOf [(0, 15, 18, 21)]) ⟨0, 15, 22, 61⟩ (tableOf []) rfl (List.forall_mem_cons.mpr ⟨no_of C0 (by decide) tb_557 (by decide +kernel), (fun z hz => absurd hz (List.not_mem_nil))⟩) rfl (by decide) tb_900 (by decide +kernel) hcell hv9 hcl ?_
      change W _ _ _ _ _ _ _ _ _ _ _ _ (_ + 7) (_ + 36) _ _
      refine lv_astore C0.1 C0.2.1 dL_angleOver_22 hl (by decide) rfl (fun ls hl => ?_)
      refine lv_iconst (v := 2) C0.1 C0.2.1 dL_angleOver_24 (by decide) ?_
      exact e_I C0 Y hO hS h (by show _ ≤ 7; omega) (by show _ ≤ 36; omega) dL_angleOver_25
  · change W _ _ _ _ _ _ _ _ _ _ _ _ (_ + 7) (_ + 36) _ _
    obtain ⟨i4, h⟩ := h
    obtain ⟨e5, h⟩ := h
    refine r_last C0 hO hS i4 e5 dL_angleOver_14 (fun H locs hO hS => ?_)
    have h := h _ rfl
    refine lv_goto (tgt := 26) C0.1 C0.2.1 dL_angleOver_15 (by decide) ?_
    refine lv_iconst (v := 0) C0.1 C0.2.1 dL_angleOver_26 (by decide) ?_
    exact e_I C0 Y hO hS h (by show _ ≤ 7; omega) (by show _ ≤ 36; omega) dL_angleOver_27
def wL_angleOver (S : Hp) (x0 : Nat) (x1 : Int32) (x2 : Int32) (x3 : Int32) (x4 : Int32) (x5 : Int32) (x6 : Nat) (Φ : Hp → Int32 → Prop) : Prop := wL_angleOver_b0 x0 x1 x2 x3 x4 x5 x6 Φ S
set_option maxRecDepth 100000 in
theorem mL_angleOver {l : Launch} {G : Gw} (hl9 : l.stackTraces = false) {S : Hp} {x0 : Nat} {x1 : Int32} {x2 : Int32} {x3 : Int32} {x4 : Int32} {x5 : Int32} {x6 : Nat} {Φ : Hp → Int32 → Prop} (h : wL_angleOver S x0 x1 x2 x3 x4 x5 x6 Φ) : gW l yL_angleOver cL_angleOver 8 (some .int) [(0, 15, 18, 21), (0, 15, 22, 61)] rm_L_angleOver [.ref x0, .int x1, .int x2, .int x3, .int x4, .int x5, .ref x6] G S (PI Φ) := by
  unfold gW
  refine va_MetW (hh := [(0, 15, 18, 21), (0, 15, 22, 61)]) (cc := cL_angleOver) (maxL := 8) (ret := (some .int)) (by decide) rfl ?_
  intro p e s m args below meth c s₁ B hml hv
  obtain ⟨rfl, hw⟩ := hv
  obtain ⟨C0, Y, hO, ht9⟩ := mx_ofW B hml hw
  have hS : va_S (Ab G.b) s.heap s.heap [] := va_S.rf
  have hl := lv_entry ([.ref x0, .int x1, .int x2, .int x3, .int x4, .int x5, .ref x6]) (n := 8) (Nat.le_of_ble_eq_true rfl)
  rw [lg_entry_eq]
  generalize (lg_sl ([.ref x0, .int x1, .int x2, .int x3, .int x4, .int x5, .ref x6]) ++ List.replicate (8 - (lg_sl ([.ref x0, .int x1, .int x2, .int x3, .int x4, .int x5, .ref x6])).length) Slot.unset).toArray = ls at hl ⊢
  have hl : lv_has ls 8 [(0, .ref x0), (1, .int x1), (2, .int x2), (3, .int x3), (4, .int x4), (5, .int x5), (6, .ref x6)] := hl
  exact bL_angleOver_b0 C0 Y hl9 ht9 S _ _ _ 0 0 h hO hS hl (by decide) (by decide)

theorem hd_L_angleUnder : nmOk yL_angleUnder 7 := by unfold nmOk; decide +kernel
def rm_L_angleUnder : Room := { frames := 9, cells := 7, slots := 36, locals := 160 }
def wL_angleUnder_b0 (x0 : Nat) (x1 : Int32) (x2 : Int32) (x3 : Int32) (x4 : Int32) (x5 : Int32) (x6 : Nat) (Φ : Hp → Int32 → Prop) (S : Hp) : Prop := isA S x0 7 ∧ wX7_angleUnder S x0 x1 x2 x3 x4 x5 (fun S1 r2 => isA S1 x6 22 ∧ vp_in 0 (S1.N x6) ∧ ∀ S6, S6 = S1.setAJ x6 ((0 : Int32).toNatClampNeg) r2 → Φ S6 0) (fun S9 E9 => (E9 = "java/lang/IllegalArgumentException" ∧ Φ S9 1) ∨ (E9 = "java/util/NoSuchElementException" ∧ Φ S9 2))
set_option maxHeartbeats 4000000 in
set_option maxRecDepth 100000 in
theorem bL_angleUnder_b0 {p : Program} {l : Launch} {e : Env} {s : State} {m : MethodId} {args : Array Value} {below : List Frame} {meth : Method} {c : Code} {G : Gw} {x0 : Nat} {x1 : Int32} {x2 : Int32} {x3 : Int32} {x4 : Int32} {x5 : Int32} {x6 : Nat} {Φ : Hp → Int32 → Prop} (C0 : Mx p s m c cL_angleUnder 8 args yL_angleUnder.cls G) (Y : My meth (some .int)) (hl9 : l.stackTraces = false) (ht9 : c.exceptionTable.toList = tableOf [(0, 15, 18, 21), (0, 15, 22, 61)])  : ∀ (S : Hp) (H : Heap) (locs : List Loc) (ls : Array Slot) (cells slots : Nat), wL_angleUnder_b0 x0 x1 x2 x3 x4 x5 x6 Φ S → Ok G S H → va_S (Ab G.b) s.heap H locs → lv_has ls 8 [(0, .ref x0), (1, .int x1), (2, .int x2), (3, .int x3), (4, .int x4), (5, .int x5), (6, .ref x6)] → cells + (7) ≤ 7 → slots + (36) ≤ 36 → W p l e rm_L_angleUnder s m args below meth c H locs cells slots (MQ below (gQ G (PI Φ)) args s rm_L_angleUnder.cells rm_L_angleUnder.slots (Ab G.b)) (F0 m 0 ls []) := by
  intro S H locs ls cells slots h hO hS hl hcc hss
  unfold wL_angleUnder_b0 at h
  refine lv_aload C0.1 C0.2.1 dL_angleUnder_0 (lv_at hl 6 rfl) ?_
  refine lv_iconst (v := 0) C0.1 C0.2.1 dL_angleUnder_2 (by decide) ?_
  refine lv_aload_n C0.1 C0.2.1 dL_angleUnder_3 rfl (lv_at hl 0 rfl) ?_
  refine lv_iload_n C0.1 C0.2.1 dL_angleUnder_4 rfl (lv_at hl 1 rfl) ?_
  refine lv_iload_n C0.1 C0.2.1 dL_angleUnder_5 rfl (lv_at hl 2 rfl) ?_
  refine lv_iload_n C0.1 C0.2.1 dL_angleUnder_6 rfl (lv_at hl 3 rfl) ?_
  refine lv_iload C0.1 C0.2.1 dL_angleUnder_7 (lv_at hl 4 rfl) ?_
  refine lv_iload C0.1 C0.2.1 dL_angleUnder_9 (lv_at hl 5 rfl) ?_
  obtain ⟨i3, h⟩ := h
  refine y_V C0 hO hS (mX7_angleUnder hl9 h) i3 (by decide) rfl rfl tb_1258 tb_1259 tb_1260 tb_74 tb_1261 hd_X7_angleUnder rfl ⟨⟨by decide, by decide⟩, by show _ + 7 ≤ 7; omega, by show _ + 36 ≤ 36; omega⟩ hl.1 rfl (Nat.le_of_ble_eq_true rfl) dL_angleUnder_11 (fun E9 ce9 q9 S9 H locs h hO hS hcell hv9 hcl => ?_) (kJ (fun r2 S1 H locs h hO hS => ?_))
  · rcases h with ⟨rfl, h⟩ | ⟨rfl, h⟩
    · refine k_catch C0 ht9 (tableOf []) ⟨0, 15, 18, 21⟩ (tableOf [(0, 15, 22, 61)]) rfl (fun z hz => absurd hz (List.not_mem_nil)) rfl (by decide) tb_557 (by decide +kernel) hcell hv9 hcl ?_
      change W _ _ _ _ _ _ _ _ _ _ _ _ (_ + 7) (_ + 36) _ _
      refine lv_astore C0.1 C0.2.1 dL_angleUnder_18 hl (by decide) rfl (fun ls hl => ?_)
      refine lv_iconst (v := 1) C0.1 C0.2.1 dL_angleUnder_20 (by decide) ?_
      exact e_I C0 Y hO hS h (by show _ ≤ 7; omega) (by show _ ≤ 36; omega) dL_angleUnder_21
    · refine k_catch C0 ht9 (tableOf [(0, 15, 18, 21)]) ⟨0, 15, 22, 61⟩ (tableOf []) rfl (List.forall_mem_cons.mpr ⟨no_of C0 (by decide) tb_557 (by decide +kernel), (fun z hz => absurd hz (List.not_mem_nil))⟩) rfl (by decide) tb_900 (by decide +kernel) hcell hv9 hcl ?_
      change W _ _ _ _ _ _ _ _ _ _ _ _ (_ + 7) (_ + 36) _ _
      refine lv_astore C0.1 C0.2.1 dL_angleUnder_22 hl (by decide) rfl (fun ls hl => ?_)
      refine lv_iconst (v := 2) C0.1 C0.2.1 dL_angleUnder_24 (by decide) ?_
      exact e_I C0 Y hO hS h (by show _ ≤ 7; omega) (by show _ ≤ 36; omega) dL_angleUnder_25
  · change W _ _ _ _ _ _ _ _ _ _ _ _ (_ + 7) (_ + 36) _ _
    obtain ⟨i4, h⟩ := h
    obtain ⟨e5, h⟩ := h
    refine r_last C0 hO hS i4 e5 dL_angleUnder_14 (fun H locs hO hS => ?_)
    have h := h _ rfl
    refine lv_goto (tgt := 26) C0.1 C0.2.1 dL_angleUnder_15 (by decide) ?_
    refine lv_iconst (v := 0) C0.1 C0.2.1 dL_angleUnder_26 (by decide) ?_
    exact e_I C0 Y hO hS h (by show _ ≤ 7; omega) (by show _ ≤ 36; omega) dL_angleUnder_27
def wL_angleUnder (S : Hp) (x0 : Nat) (x1 : Int32) (x2 : Int32) (x3 : Int32) (x4 : Int32) (x5 : Int32) (x6 : Nat) (Φ : Hp → Int32 → Prop) : Prop := wL_angleUnder_b0 x0 x1 x2 x3 x4 x5 x6 Φ S
set_option maxRecDepth 100000 in
theorem mL_angleUnder {l : Launch} {G : Gw} (hl9 : l.stackTraces = false) {S : Hp} {x0 : Nat} {x1 : Int32} {x2 : Int32} {x3 : Int32} {x4 : Int32} {x5 : Int32} {x6 : Nat} {Φ : Hp → Int32 → Prop} (h : wL_angleUnder S x0 x1 x2 x3 x4 x5 x6 Φ) : gW l yL_angleUnder cL_angleUnder 8 (some .int) [(0, 15, 18, 21), (0, 15, 22, 61)] rm_L_angleUnder [.ref x0, .int x1, .int x2, .int x3, .int x4, .int x5, .ref x6] G S (PI Φ) := by
  unfold gW
  refine va_MetW (hh := [(0, 15, 18, 21), (0, 15, 22, 61)]) (cc := cL_angleUnder) (maxL := 8) (ret := (some .int)) (by decide) rfl ?_
  intro p e s m args below meth c s₁ B hml hv
  obtain ⟨rfl, hw⟩ := hv
  obtain ⟨C0, Y, hO, ht9⟩ := mx_ofW B hml hw
  have hS : va_S (Ab G.b) s.heap s.heap [] := va_S.rf
  have hl := lv_entry ([.ref x0, .int x1, .int x2, .int x3, .int x4, .int x5, .ref x6]) (n := 8) (Nat.le_of_ble_eq_true rfl)
  rw [lg_entry_eq]
  generalize (lg_sl ([.ref x0, .int x1, .int x2, .int x3, .int x4, .int x5, .ref x6]) ++ List.replicate (8 - (lg_sl ([.ref x0, .int x1, .int x2, .int x3, .int x4, .int x5, .ref x6])).length) Slot.unset).toArray = ls at hl ⊢
  have hl : lv_has ls 8 [(0, .ref x0), (1, .int x1), (2, .int x2), (3, .int x3), (4, .int x4), (5, .int x5), (6, .ref x6)] := hl
  exact bL_angleUnder_b0 C0 Y hl9 ht9 S _ _ _ 0 0 h hO hS hl (by decide) (by decide)

theorem hd_L_teeth : nmOk yL_teeth 5 := by unfold nmOk; decide +kernel
def rm_L_teeth : Room := { frames := 8, cells := 2, slots := 12, locals := 139 }
def wL_teeth_b0 (x0 : Nat) (x1 : Int32) (x2 : Int32) (x3 : Int32) (x4 : Nat) (Φ : Hp → Int32 → Prop) (S : Hp) : Prop := isA S x0 7 ∧ wX7_teeth S x0 x1 x2 x3 (fun S1 r2 => isA S1 x4 22 ∧ vp_in 0 (S1.N x4) ∧ ∀ S6, S6 = S1.setAJ x4 ((0 : Int32).toNatClampNeg) r2.toInt64 → Φ S6 0) (fun S9 E9 => (E9 = "java/lang/IllegalArgumentException" ∧ Φ S9 1))
set_option maxHeartbeats 4000000 in
set_option maxRecDepth 100000 in
theorem bL_teeth_b0 {p : Program} {l : Launch} {e : Env} {s : State} {m : MethodId} {args : Array Value} {below : List Frame} {meth : Method} {c : Code} {G : Gw} {x0 : Nat} {x1 : Int32} {x2 : Int32} {x3 : Int32} {x4 : Nat} {Φ : Hp → Int32 → Prop} (C0 : Mx p s m c cL_teeth 6 args yL_teeth.cls G) (Y : My meth (some .int)) (hl9 : l.stackTraces = false) (ht9 : c.exceptionTable.toList = tableOf [(0, 12, 15, 21)])  : ∀ (S : Hp) (H : Heap) (locs : List Loc) (ls : Array Slot) (cells slots : Nat), wL_teeth_b0 x0 x1 x2 x3 x4 Φ S → Ok G S H → va_S (Ab G.b) s.heap H locs → lv_has ls 6 [(0, .ref x0), (1, .int x1), (2, .int x2), (3, .int x3), (4, .ref x4)] → cells + (2) ≤ 2 → slots + (12) ≤ 12 → W p l e rm_L_teeth s m args below meth c H locs cells slots (MQ below (gQ G (PI Φ)) args s rm_L_teeth.cells rm_L_teeth.slots (Ab G.b)) (F0 m 0 ls []) := by
  intro S H locs ls cells slots h hO hS hl hcc hss
  unfold wL_teeth_b0 at h
  refine lv_aload C0.1 C0.2.1 dL_teeth_0 (lv_at hl 4 rfl) ?_
  refine lv_iconst (v := 0) C0.1 C0.2.1 dL_teeth_2 (by decide) ?_
  refine lv_aload_n C0.1 C0.2.1 dL_teeth_3 rfl (lv_at hl 0 rfl) ?_
  refine lv_iload_n C0.1 C0.2.1 dL_teeth_4 rfl (lv_at hl 1 rfl) ?_
  refine lv_iload_n C0.1 C0.2.1 dL_teeth_5 rfl (lv_at hl 2 rfl) ?_
  refine lv_iload_n C0.1 C0.2.1 dL_teeth_6 rfl (lv_at hl 3 rfl) ?_
  obtain ⟨i3, h⟩ := h
  refine y_V C0 hO hS (mX7_teeth hl9 h) i3 (by decide) rfl rfl tb_1265 tb_1266 tb_1267 tb_74 tb_1268 hd_X7_teeth rfl ⟨⟨by decide, by decide⟩, by show _ + 2 ≤ 2; omega, by show _ + 12 ≤ 12; omega⟩ hl.1 rfl (Nat.le_of_ble_eq_true rfl) dL_teeth_7 (fun E9 ce9 q9 S9 H locs h hO hS hcell hv9 hcl => ?_) (kI (fun r2 S1 H locs h hO hS => ?_))
  · rcases h with ⟨rfl, h⟩
    · refine k_catch C0 ht9 (tableOf []) ⟨0, 12, 15, 21⟩ (tableOf []) rfl (fun z hz => absurd hz (List.not_mem_nil)) rfl (by decide) tb_557 (by decide +kernel) hcell hv9 hcl ?_
      change W _ _ _ _ _ _ _ _ _ _ _ _ (_ + 2) (_ + 12) _ _
      refine lv_astore C0.1 C0.2.1 dL_teeth_15 hl (by decide) rfl (fun ls hl => ?_)
      refine lv_iconst (v := 1) C0.1 C0.2.1 dL_teeth_17 (by decide) ?_
      exact e_I C0 Y hO hS h (by show _ ≤ 2; omega) (by show _ ≤ 12; omega) dL_teeth_18
  · change W _ _ _ _ _ _ _ _ _ _ _ _ (_ + 2) (_ + 12) _ _
    refine lv_i2l C0.1 C0.2.1 dL_teeth_10 rfl ?_
    obtain ⟨i4, h⟩ := h
    obtain ⟨e5, h⟩ := h
    refine r_last C0 hO hS i4 e5 dL_teeth_11 (fun H locs hO hS => ?_)
    have h := h _ rfl
    refine lv_goto (tgt := 19) C0.1 C0.2.1 dL_teeth_12 (by decide) ?_
    refine lv_iconst (v := 0) C0.1 C0.2.1 dL_teeth_19 (by decide) ?_
    exact e_I C0 Y hO hS h (by show _ ≤ 2; omega) (by show _ ≤ 12; omega) dL_teeth_20
def wL_teeth (S : Hp) (x0 : Nat) (x1 : Int32) (x2 : Int32) (x3 : Int32) (x4 : Nat) (Φ : Hp → Int32 → Prop) : Prop := wL_teeth_b0 x0 x1 x2 x3 x4 Φ S
set_option maxRecDepth 100000 in
theorem mL_teeth {l : Launch} {G : Gw} (hl9 : l.stackTraces = false) {S : Hp} {x0 : Nat} {x1 : Int32} {x2 : Int32} {x3 : Int32} {x4 : Nat} {Φ : Hp → Int32 → Prop} (h : wL_teeth S x0 x1 x2 x3 x4 Φ) : gW l yL_teeth cL_teeth 6 (some .int) [(0, 12, 15, 21)] rm_L_teeth [.ref x0, .int x1, .int x2, .int x3, .ref x4] G S (PI Φ) := by
  unfold gW
  refine va_MetW (hh := [(0, 12, 15, 21)]) (cc := cL_teeth) (maxL := 6) (ret := (some .int)) (by decide) rfl ?_
  intro p e s m args below meth c s₁ B hml hv
  obtain ⟨rfl, hw⟩ := hv
  obtain ⟨C0, Y, hO, ht9⟩ := mx_ofW B hml hw
  have hS : va_S (Ab G.b) s.heap s.heap [] := va_S.rf
  have hl := lv_entry ([.ref x0, .int x1, .int x2, .int x3, .ref x4]) (n := 6) (Nat.le_of_ble_eq_true rfl)
  rw [lg_entry_eq]
  generalize (lg_sl ([.ref x0, .int x1, .int x2, .int x3, .ref x4]) ++ List.replicate (6 - (lg_sl ([.ref x0, .int x1, .int x2, .int x3, .ref x4])).length) Slot.unset).toArray = ls at hl ⊢
  have hl : lv_has ls 6 [(0, .ref x0), (1, .int x1), (2, .int x2), (3, .int x3), (4, .ref x4)] := hl
  exact bL_teeth_b0 C0 Y hl9 ht9 S _ _ _ 0 0 h hO hS hl (by decide) (by decide)

theorem hd_L_pairs : nmOk yL_pairs 4 := by unfold nmOk; decide +kernel
def rm_L_pairs : Room := { frames := 8, cells := 2, slots := 12, locals := 137 }
def wL_pairs_b0 (x0 : Nat) (x1 : Int32) (x2 : Int32) (x3 : Nat) (Φ : Hp → Int32 → Prop) (S : Hp) : Prop := isA S x0 7 ∧ wX7_pairs S x0 x1 x2 (fun S1 r2 => isA S1 x3 22 ∧ vp_in 0 (S1.N x3) ∧ ∀ S6, S6 = S1.setAJ x3 ((0 : Int32).toNatClampNeg) r2.toInt64 → Φ S6 0) (fun S9 E9 => (E9 = "java/lang/IllegalArgumentException" ∧ Φ S9 1))
set_option maxHeartbeats 4000000 in
set_option maxRecDepth 100000 in
theorem bL_pairs_b0 {p : Program} {l : Launch} {e : Env} {s : State} {m : MethodId} {args : Array Value} {below : List Frame} {meth : Method} {c : Code} {G : Gw} {x0 : Nat} {x1 : Int32} {x2 : Int32} {x3 : Nat} {Φ : Hp → Int32 → Prop} (C0 : Mx p s m c cL_pairs 5 args yL_pairs.cls G) (Y : My meth (some .int)) (hl9 : l.stackTraces = false) (ht9 : c.exceptionTable.toList = tableOf [(0, 10, 13, 21)])  : ∀ (S : Hp) (H : Heap) (locs : List Loc) (ls : Array Slot) (cells slots : Nat), wL_pairs_b0 x0 x1 x2 x3 Φ S → Ok G S H → va_S (Ab G.b) s.heap H locs → lv_has ls 5 [(0, .ref x0), (1, .int x1), (2, .int x2), (3, .ref x3)] → cells + (2) ≤ 2 → slots + (12) ≤ 12 → W p l e rm_L_pairs s m args below meth c H locs cells slots (MQ below (gQ G (PI Φ)) args s rm_L_pairs.cells rm_L_pairs.slots (Ab G.b)) (F0 m 0 ls []) := by
  intro S H locs ls cells slots h hO hS hl hcc hss
  unfold wL_pairs_b0 at h
  refine lv_aload_n C0.1 C0.2.1 dL_pairs_0 rfl (lv_at hl 3 rfl) ?_
  refine lv_iconst (v := 0) C0.1 C0.2.1 dL_pairs_1 (by decide) ?_
  refine lv_aload_n C0.1 C0.2.1 dL_pairs_2 rfl (lv_at hl 0 rfl) ?_
  refine lv_iload_n C0.1 C0.2.1 dL_pairs_3 rfl (lv_at hl 1 rfl) ?_
  refine lv_iload_n C0.1 C0.2.1 dL_pairs_4 rfl (lv_at hl 2 rfl) ?_
  obtain ⟨i3, h⟩ := h
  refine y_V C0 hO hS (mX7_pairs hl9 h) i3 (by decide) rfl rfl tb_1275 tb_1276 tb_1277 tb_74 tb_1278 hd_X7_pairs rfl ⟨⟨by decide, by decide⟩, by show _ + 2 ≤ 2; omega, by show _ + 12 ≤ 12; omega⟩ hl.1 rfl (Nat.le_of_ble_eq_true rfl) dL_pairs_5 (fun E9 ce9 q9 S9 H locs h hO hS hcell hv9 hcl => ?_) (kI (fun r2 S1 H locs h hO hS => ?_))
  · rcases h with ⟨rfl, h⟩
    · refine k_catch C0 ht9 (tableOf []) ⟨0, 10, 13, 21⟩ (tableOf []) rfl (fun z hz => absurd hz (List.not_mem_nil)) rfl (by decide) tb_557 (by decide +kernel) hcell hv9 hcl ?_
      change W _ _ _ _ _ _ _ _ _ _ _ _ (_ + 2) (_ + 12) _ _
      refine lv_astore C0.1 C0.2.1 dL_pairs_13 hl (by decide) rfl (fun ls hl => ?_)
      refine lv_iconst (v := 1) C0.1 C0.2.1 dL_pairs_15 (by decide) ?_
      exact e_I C0 Y hO hS h (by show _ ≤ 2; omega) (by show _ ≤ 12; omega) dL_pairs_16
  · change W _ _ _ _ _ _ _ _ _ _ _ _ (_ + 2) (_ + 12) _ _
    refine lv_i2l C0.1 C0.2.1 dL_pairs_8 rfl ?_
    obtain ⟨i4, h⟩ := h
    obtain ⟨e5, h⟩ := h
    refine r_last C0 hO hS i4 e5 dL_pairs_9 (fun H locs hO hS => ?_)
    have h := h _ rfl
    refine lv_goto (tgt := 17) C0.1 C0.2.1 dL_pairs_10 (by decide) ?_
    refine lv_iconst (v := 0) C0.1 C0.2.1 dL_pairs_17 (by decide) ?_
    exact e_I C0 Y hO hS h (by show _ ≤ 2; omega) (by show _ ≤ 12; omega) dL_pairs_18
def wL_pairs (S : Hp) (x0 : Nat) (x1 : Int32) (x2 : Int32) (x3 : Nat) (Φ : Hp → Int32 → Prop) : Prop := wL_pairs_b0 x0 x1 x2 x3 Φ S
set_option maxRecDepth 100000 in
theorem mL_pairs {l : Launch} {G : Gw} (hl9 : l.stackTraces = false) {S : Hp} {x0 : Nat} {x1 : Int32} {x2 : Int32} {x3 : Nat} {Φ : Hp → Int32 → Prop} (h : wL_pairs S x0 x1 x2 x3 Φ) : gW l yL_pairs cL_pairs 5 (some .int) [(0, 10, 13, 21)] rm_L_pairs [.ref x0, .int x1, .int x2, .ref x3] G S (PI Φ) := by
  unfold gW
  refine va_MetW (hh := [(0, 10, 13, 21)]) (cc := cL_pairs) (maxL := 5) (ret := (some .int)) (by decide) rfl ?_
  intro p e s m args below meth c s₁ B hml hv
  obtain ⟨rfl, hw⟩ := hv
  obtain ⟨C0, Y, hO, ht9⟩ := mx_ofW B hml hw
  have hS : va_S (Ab G.b) s.heap s.heap [] := va_S.rf
  have hl := lv_entry ([.ref x0, .int x1, .int x2, .ref x3]) (n := 5) (Nat.le_of_ble_eq_true rfl)
  rw [lg_entry_eq]
  generalize (lg_sl ([.ref x0, .int x1, .int x2, .ref x3]) ++ List.replicate (5 - (lg_sl ([.ref x0, .int x1, .int x2, .ref x3])).length) Slot.unset).toArray = ls at hl ⊢
  have hl : lv_has ls 5 [(0, .ref x0), (1, .int x1), (2, .int x2), (3, .ref x3)] := hl
  exact bL_pairs_b0 C0 Y hl9 ht9 S _ _ _ 0 0 h hO hS hl (by decide) (by decide)

theorem hd_L_drivenShare : nmOk yL_drivenShare 2 := by unfold nmOk; decide +kernel
def rm_L_drivenShare : Room := { frames := 7, cells := 1, slots := 6, locals := 110 }
def wL_drivenShare_b0 (x0 : Nat) (x1 : Nat) (Φ : Hp → Int32 → Prop) (S : Hp) : Prop := isA S x0 7 ∧ wX7_drivenShare S x0 (fun S1 r2 => vf_n64 (FP.f2d r2) ∧ isA S1 x1 24 ∧ vp_in 0 (S1.N x1) ∧ ∀ S7, S7 = S1.setAD x1 ((0 : Int32).toNatClampNeg) (FP.f2d r2) → Φ S7 0) (fun S9 E9 => (E9 = "java/lang/ArithmeticException" ∧ Φ S9 1))
set_option maxHeartbeats 4000000 in
set_option maxRecDepth 100000 in
theorem bL_drivenShare_b0 {p : Program} {l : Launch} {e : Env} {s : State} {m : MethodId} {args : Array Value} {below : List Frame} {meth : Method} {c : Code} {G : Gw} {x0 : Nat} {x1 : Nat} {Φ : Hp → Int32 → Prop} (C0 : Mx p s m c cL_drivenShare 3 args yL_drivenShare.cls G) (Y : My meth (some .int)) (hl9 : l.stackTraces = false) (ht9 : c.exceptionTable.toList = tableOf [(0, 8, 11, 150)])  : ∀ (S : Hp) (H : Heap) (locs : List Loc) (ls : Array Slot) (cells slots : Nat), wL_drivenShare_b0 x0 x1 Φ S → Ok G S H → va_S (Ab G.b) s.heap H locs → lv_has ls 3 [(0, .ref x0), (1, .ref x1)] → cells + (1) ≤ 1 → slots + (6) ≤ 6 → W p l e rm_L_drivenShare s m args below meth c H locs cells slots (MQ below (gQ G (PI Φ)) args s rm_L_drivenShare.cells rm_L_drivenShare.slots (Ab G.b)) (F0 m 0 ls []) := by
  intro S H locs ls cells slots h hO hS hl hcc hss
  unfold wL_drivenShare_b0 at h
  refine lv_aload_n C0.1 C0.2.1 dL_drivenShare_0 rfl (lv_at hl 1 rfl) ?_
  refine lv_iconst (v := 0) C0.1 C0.2.1 dL_drivenShare_1 (by decide) ?_
  refine lv_aload_n C0.1 C0.2.1 dL_drivenShare_2 rfl (lv_at hl 0 rfl) ?_
  obtain ⟨i3, h⟩ := h
  refine y_V C0 hO hS (mX7_drivenShare hl9 h) i3 (by decide) rfl rfl tb_1296 tb_1297 tb_1298 tb_74 tb_1299 hd_X7_drivenShare rfl ⟨⟨by decide, by decide⟩, by show _ + 1 ≤ 1; omega, by show _ + 6 ≤ 6; omega⟩ hl.1 rfl (Nat.le_of_ble_eq_true rfl) dL_drivenShare_3 (fun E9 ce9 q9 S9 H locs h hO hS hcell hv9 hcl => ?_) (kF (fun r2 S1 H locs h hO hS => ?_))
  · rcases h with ⟨rfl, h⟩
    · refine k_catch C0 ht9 (tableOf []) ⟨0, 8, 11, 150⟩ (tableOf []) rfl (fun z hz => absurd hz (List.not_mem_nil)) rfl (by decide) tb_1282 (by decide +kernel) hcell hv9 hcl ?_
      change W _ _ _ _ _ _ _ _ _ _ _ _ (_ + 1) (_ + 6) _ _
      refine lv_astore_n C0.1 C0.2.1 dL_drivenShare_11 rfl hl (by decide) rfl (fun ls hl => ?_)
      refine lv_iconst (v := 1) C0.1 C0.2.1 dL_drivenShare_12 (by decide) ?_
      exact e_I C0 Y hO hS h (by show _ ≤ 1; omega) (by show _ ≤ 6; omega) dL_drivenShare_13
  · change W _ _ _ _ _ _ _ _ _ _ _ _ (_ + 1) (_ + 6) _ _
    obtain ⟨e4, h⟩ := h
    refine lv_f2d C0.1 C0.2.1 dL_drivenShare_6 e4 ?_
    obtain ⟨i5, h⟩ := h
    obtain ⟨e6, h⟩ := h
    refine r_dast C0 hO hS i5 e6 dL_drivenShare_7 (fun H locs hO hS => ?_)
    have h := h _ rfl
    refine lv_goto (tgt := 14) C0.1 C0.2.1 dL_drivenShare_8 (by decide) ?_
    refine lv_iconst (v := 0) C0.1 C0.2.1 dL_drivenShare_14 (by decide) ?_
    exact e_I C0 Y hO hS h (by show _ ≤ 1; omega) (by show _ ≤ 6; omega) dL_drivenShare_15
def wL_drivenShare (S : Hp) (x0 : Nat) (x1 : Nat) (Φ : Hp → Int32 → Prop) : Prop := wL_drivenShare_b0 x0 x1 Φ S
set_option maxRecDepth 100000 in
theorem mL_drivenShare {l : Launch} {G : Gw} (hl9 : l.stackTraces = false) {S : Hp} {x0 : Nat} {x1 : Nat} {Φ : Hp → Int32 → Prop} (h : wL_drivenShare S x0 x1 Φ) : gW l yL_drivenShare cL_drivenShare 3 (some .int) [(0, 8, 11, 150)] rm_L_drivenShare [.ref x0, .ref x1] G S (PI Φ) := by
  unfold gW
  refine va_MetW (hh := [(0, 8, 11, 150)]) (cc := cL_drivenShare) (maxL := 3) (ret := (some .int)) (by decide) rfl ?_
  intro p e s m args below meth c s₁ B hml hv
  obtain ⟨rfl, hw⟩ := hv
  obtain ⟨C0, Y, hO, ht9⟩ := mx_ofW B hml hw
  have hS : va_S (Ab G.b) s.heap s.heap [] := va_S.rf
  have hl := lv_entry ([.ref x0, .ref x1]) (n := 3) (Nat.le_of_ble_eq_true rfl)
  rw [lg_entry_eq]
  generalize (lg_sl ([.ref x0, .ref x1]) ++ List.replicate (3 - (lg_sl ([.ref x0, .ref x1])).length) Slot.unset).toArray = ls at hl ⊢
  have hl : lv_has ls 3 [(0, .ref x0), (1, .ref x1)] := hl
  exact bL_drivenShare_b0 C0 Y hl9 ht9 S _ _ _ 0 0 h hO hS hl (by decide) (by decide)

theorem hd_L_meanWorn : nmOk yL_meanWorn 2 := by unfold nmOk; decide +kernel
def rm_L_meanWorn : Room := { frames := 7, cells := 1, slots := 6, locals := 113 }
def wL_meanWorn_b0 (x0 : Nat) (x1 : Nat) (Φ : Hp → Int32 → Prop) (S : Hp) : Prop := isA S x0 7 ∧ wX7_meanWorn S x0 (fun S1 r2 => isA S1 x1 24 ∧ vp_in 0 (S1.N x1) ∧ ∀ S6, S6 = S1.setAD x1 ((0 : Int32).toNatClampNeg) r2 → Φ S6 0) (fun S9 E9 => (E9 = "java/lang/ArithmeticException" ∧ Φ S9 1))
set_option maxHeartbeats 4000000 in
set_option maxRecDepth 100000 in
theorem bL_meanWorn_b0 {p : Program} {l : Launch} {e : Env} {s : State} {m : MethodId} {args : Array Value} {below : List Frame} {meth : Method} {c : Code} {G : Gw} {x0 : Nat} {x1 : Nat} {Φ : Hp → Int32 → Prop} (C0 : Mx p s m c cL_meanWorn 3 args yL_meanWorn.cls G) (Y : My meth (some .int)) (hl9 : l.stackTraces = false) (ht9 : c.exceptionTable.toList = tableOf [(0, 7, 10, 150)])  : ∀ (S : Hp) (H : Heap) (locs : List Loc) (ls : Array Slot) (cells slots : Nat), wL_meanWorn_b0 x0 x1 Φ S → Ok G S H → va_S (Ab G.b) s.heap H locs → lv_has ls 3 [(0, .ref x0), (1, .ref x1)] → cells + (1) ≤ 1 → slots + (6) ≤ 6 → W p l e rm_L_meanWorn s m args below meth c H locs cells slots (MQ below (gQ G (PI Φ)) args s rm_L_meanWorn.cells rm_L_meanWorn.slots (Ab G.b)) (F0 m 0 ls []) := by
  intro S H locs ls cells slots h hO hS hl hcc hss
  unfold wL_meanWorn_b0 at h
  refine lv_aload_n C0.1 C0.2.1 dL_meanWorn_0 rfl (lv_at hl 1 rfl) ?_
  refine lv_iconst (v := 0) C0.1 C0.2.1 dL_meanWorn_1 (by decide) ?_
  refine lv_aload_n C0.1 C0.2.1 dL_meanWorn_2 rfl (lv_at hl 0 rfl) ?_
  obtain ⟨i3, h⟩ := h
  refine y_V C0 hO hS (mX7_meanWorn hl9 h) i3 (by decide) rfl rfl tb_1306 tb_1307 tb_1308 tb_74 tb_1309 hd_X7_meanWorn rfl ⟨⟨by decide, by decide⟩, by show _ + 1 ≤ 1; omega, by show _ + 6 ≤ 6; omega⟩ hl.1 rfl (Nat.le_of_ble_eq_true rfl) dL_meanWorn_3 (fun E9 ce9 q9 S9 H locs h hO hS hcell hv9 hcl => ?_) (kD (fun r2 S1 H locs h hO hS => ?_))
  · rcases h with ⟨rfl, h⟩
    · refine k_catch C0 ht9 (tableOf []) ⟨0, 7, 10, 150⟩ (tableOf []) rfl (fun z hz => absurd hz (List.not_mem_nil)) rfl (by decide) tb_1282 (by decide +kernel) hcell hv9 hcl ?_
      change W _ _ _ _ _ _ _ _ _ _ _ _ (_ + 1) (_ + 6) _ _
      refine lv_astore_n C0.1 C0.2.1 dL_meanWorn_10 rfl hl (by decide) rfl (fun ls hl => ?_)
      refine lv_iconst (v := 1) C0.1 C0.2.1 dL_meanWorn_11 (by decide) ?_
      exact e_I C0 Y hO hS h (by show _ ≤ 1; omega) (by show _ ≤ 6; omega) dL_meanWorn_12
  · change W _ _ _ _ _ _ _ _ _ _ _ _ (_ + 1) (_ + 6) _ _
    obtain ⟨i4, h⟩ := h
    obtain ⟨e5, h⟩ := h
    refine r_dast C0 hO hS i4 e5 dL_meanWorn_6 (fun H locs hO hS => ?_)
    have h := h _ rfl
    refine lv_goto (tgt := 13) C0.1 C0.2.1 dL_meanWorn_7 (by decide) ?_
    refine lv_iconst (v := 0) C0.1 C0.2.1 dL_meanWorn_13 (by decide) ?_
    exact e_I C0 Y hO hS h (by show _ ≤ 1; omega) (by show _ ≤ 6; omega) dL_meanWorn_14
def wL_meanWorn (S : Hp) (x0 : Nat) (x1 : Nat) (Φ : Hp → Int32 → Prop) : Prop := wL_meanWorn_b0 x0 x1 Φ S
set_option maxRecDepth 100000 in
theorem mL_meanWorn {l : Launch} {G : Gw} (hl9 : l.stackTraces = false) {S : Hp} {x0 : Nat} {x1 : Nat} {Φ : Hp → Int32 → Prop} (h : wL_meanWorn S x0 x1 Φ) : gW l yL_meanWorn cL_meanWorn 3 (some .int) [(0, 7, 10, 150)] rm_L_meanWorn [.ref x0, .ref x1] G S (PI Φ) := by
  unfold gW
  refine va_MetW (hh := [(0, 7, 10, 150)]) (cc := cL_meanWorn) (maxL := 3) (ret := (some .int)) (by decide) rfl ?_
  intro p e s m args below meth c s₁ B hml hv
  obtain ⟨rfl, hw⟩ := hv
  obtain ⟨C0, Y, hO, ht9⟩ := mx_ofW B hml hw
  have hS : va_S (Ab G.b) s.heap s.heap [] := va_S.rf
  have hl := lv_entry ([.ref x0, .ref x1]) (n := 3) (Nat.le_of_ble_eq_true rfl)
  rw [lg_entry_eq]
  generalize (lg_sl ([.ref x0, .ref x1]) ++ List.replicate (3 - (lg_sl ([.ref x0, .ref x1])).length) Slot.unset).toArray = ls at hl ⊢
  have hl : lv_has ls 3 [(0, .ref x0), (1, .ref x1)] := hl
  exact bL_meanWorn_b0 C0 Y hl9 ht9 S _ _ _ 0 0 h hO hS hl (by decide) (by decide)
