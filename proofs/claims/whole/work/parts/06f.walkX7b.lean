def rm_X7_placeUnder : Room := { frames := 7, cells := 1, slots := 6, locals := 111 }
def wX7_placeUnder_b0 (x0 : Nat) (x1 : Int32) (Φ : Hp → Int64 → Prop) (Ψ : Hp → String → Prop) (S : Hp) : Prop := isA S x0 7 ∧ wX7_checkShaft S x0 x1 (fun S1 => isA S1 x0 7 ∧ ∃ a4, S1.FR 458 x0 = some a4 ∧ isA S1 a4 6 ∧ ∃ a6, S1.FR 384 a4 = some a6 ∧ isA S1 a6 4 ∧ wX4_underAt S1 a6 x1 (fun S7 r8 => Φ S7 r8)) Ψ
set_option maxHeartbeats 4000000 in
set_option maxRecDepth 100000 in
theorem bX7_placeUnder_b0 {p : Program} {l : Launch} {e : Env} {s : State} {m : MethodId} {args : Array Value} {below : List Frame} {meth : Method} {c : Code} {G : Gw} {x0 : Nat} {x1 : Int32} {Φ : Hp → Int64 → Prop} {Ψ : Hp → String → Prop} (C0 : Mx p s m c cX7_placeUnder 2 args yX7_placeUnder.cls G) (Y : My meth (some .long)) (hl9 : l.stackTraces = false) (hx9 : ∀ x ∈ c.exceptionTable.toList, False)  : ∀ (S : Hp) (H : Heap) (locs : List Loc) (ls : Array Slot) (cells slots : Nat), wX7_placeUnder_b0 x0 x1 Φ Ψ S → Ok G S H → va_S (Ab G.b) s.heap H locs → lv_has ls 2 [(0, .ref x0), (1, .int x1)] → cells + (1) ≤ 1 → slots + (6) ≤ 6 → W p l e rm_X7_placeUnder s m args below meth c H locs cells slots (vx_MQ below (gQ G (PJ Φ)) (gX G Ψ) args s rm_X7_placeUnder.cells rm_X7_placeUnder.slots (Ab G.b)) (F0 m 0 ls []) := by
  intro S H locs ls cells slots h hO hS hl hcc hss
  unfold wX7_placeUnder_b0 at h
  refine lv_aload_n C0.1 C0.2.1 dX7_placeUnder_0 rfl (lv_at hl 0 rfl) ?_
  refine lv_iload_n C0.1 C0.2.1 dX7_placeUnder_1 rfl (lv_at hl 1 rfl) ?_
  obtain ⟨i2, h⟩ := h
  refine x_V C0 Y.2 hx9 hO hS (mX7_checkShaft hl9 h) i2 (by decide) rfl rfl tb_563 tb_565 tb_12 tb_74 tb_566 hd_X7_checkShaft rfl ⟨⟨by decide, by decide⟩, by show _ + 1 ≤ 1; omega, by show _ + 6 ≤ 6; omega⟩ hl.1 rfl (Nat.le_of_ble_eq_true rfl) dX7_placeUnder_2 (by show _ + 1 ≤ 1; omega) (by show _ + 6 ≤ 6; omega) (kV (fun S1 H locs h hO hS => ?_))
  change W _ _ _ _ _ _ _ _ _ _ _ _ (_ + 1) (_ + 6) _ _
  refine lv_aload_n C0.1 C0.2.1 dX7_placeUnder_5 rfl (lv_at hl 0 rfl) ?_
  obtain ⟨i3, h⟩ := h
  obtain ⟨a4, ea4, h⟩ := h
  refine g7_10 C0 hO i3 ea4 tb_196 dX7_placeUnder_6 ?_
  obtain ⟨i5, h⟩ := h
  obtain ⟨a6, ea6, h⟩ := h
  refine g6_0 C0 hO i5 ea6 tb_165 dX7_placeUnder_9 ?_
  refine lv_iload_n C0.1 C0.2.1 dX7_placeUnder_12 rfl (lv_at hl 1 rfl) ?_
  obtain ⟨i9, h⟩ := h
  refine c_V C0 hO hS (mX4_underAt h) i9 (by decide) rfl rfl tb_257 tb_258 tb_259 tb_78 tb_260 hd_X4_underAt rfl ⟨⟨by decide, by decide⟩, by show _ + 0 ≤ 1; omega, by show _ + 0 ≤ 6; omega⟩ hl.1 rfl (Nat.le_of_ble_eq_true rfl) dX7_placeUnder_13 (kJ (fun r8 S7 H locs h hO hS => ?_))
  change W _ _ _ _ _ _ _ _ _ _ _ _ (_ + 0) (_ + 0) _ _
  refine vx_ret ?_
  exact e_J C0 Y hO hS h (by show _ ≤ 1; omega) (by show _ ≤ 6; omega) dX7_placeUnder_16
def wX7_placeUnder (S : Hp) (x0 : Nat) (x1 : Int32) (Φ : Hp → Int64 → Prop) (Ψ : Hp → String → Prop) : Prop := wX7_placeUnder_b0 x0 x1 Φ Ψ S
set_option maxRecDepth 100000 in
theorem mX7_placeUnder {l : Launch} {G : Gw} (hl9 : l.stackTraces = false) {S : Hp} {x0 : Nat} {x1 : Int32} {Φ : Hp → Int64 → Prop} {Ψ : Hp → String → Prop} (h : wX7_placeUnder S x0 x1 Φ Ψ) : gT l yX7_placeUnder cX7_placeUnder 2 (some .long) rm_X7_placeUnder [.ref x0, .int x1] G S (PJ Φ) Ψ := by
  unfold gT
  refine vx_ofW (cc := cX7_placeUnder) (maxL := 2) (ret := (some .long)) (by decide) rfl ?_
  intro p e s m args below meth c s₁ B hml hx9 hv
  obtain ⟨rfl, hw⟩ := hv
  obtain ⟨C0, Y, hO⟩ := mx_of B hml hw
  have hS : va_S (Ab G.b) s.heap s.heap [] := va_S.rf
  have hl := lv_entry ([.ref x0, .int x1]) (n := 2) (Nat.le_of_ble_eq_true rfl)
  rw [lg_entry_eq]
  generalize (lg_sl ([.ref x0, .int x1]) ++ List.replicate (2 - (lg_sl ([.ref x0, .int x1])).length) Slot.unset).toArray = ls at hl ⊢
  have hl : lv_has ls 2 [(0, .ref x0), (1, .int x1)] := hl
  exact bX7_placeUnder_b0 C0 Y hl9 hx9 S _ _ _ 0 0 h hO hS hl (by decide) (by decide)

def rm_X7_spread : Room := { frames := 3, cells := 0, slots := 0, locals := 87 }
def wX7_spread_b115 (x0 : Nat) (x1 : Nat) (Φ : Hp → Prop) (S : Hp) (z0 : Nat) (z1 : Int32) (z2 : Int32) : Prop := isA S z0 23 ∧ vp_in z1 (S.N z0) ∧ nb z2 ∧ ∀ S4, S4 = S.setAI z0 z1.toNatClampNeg z2 → isA S4 x1 5 ∧ wX5_doesAct S4 x1 (fun S5 r6 => ((r6 = 0 → Φ S5) ∧ (¬ (r6 = 0) → isA S5 x0 7 ∧ ∃ a10, S5.FR 456 x0 = some a10 ∧ isA S5 x1 5 ∧ wX5_over S5 x1 (fun S11 r12 => isA S11 x1 5 ∧ wX5_carry S11 x1 a10 r12 (fun S14 => Φ S14)))))
set_option maxHeartbeats 4000000 in
set_option maxRecDepth 100000 in
theorem bX7_spread_b115 {p : Program} {l : Launch} {e : Env} {s : State} {m : MethodId} {args : Array Value} {below : List Frame} {meth : Method} {c : Code} {G : Gw} {x0 : Nat} {x1 : Nat} {Φ : Hp → Prop} (C0 : Mx p s m c cX7_spread 2 args yX7_spread.cls G) (Y : My meth none)  : ∀ (S : Hp) (z0 : Nat) (z1 : Int32) (z2 : Int32) (H : Heap) (locs : List Loc) (ls : Array Slot), wX7_spread_b115 x0 x1 Φ S z0 z1 z2 → Ok G S H → va_S (Ab G.b) s.heap H locs → lv_has ls 2 [(0, .ref x0), (1, .ref x1)] → W p l e rm_X7_spread s m args below meth c H locs 0 0 (MQ below (gQ G (PV Φ)) args s rm_X7_spread.cells rm_X7_spread.slots (Ab G.b)) (F0 m 115 ls [.int z2, .int z1, .ref z0]) := by
  intro S z0 z1 z2 H locs ls h hO hS hl
  unfold wX7_spread_b115 at h
  obtain ⟨i1, h⟩ := h
  obtain ⟨e2, h⟩ := h
  obtain ⟨e3, h⟩ := h
  refine r_zast C0 hO hS i1 e2 e3 dX7_spread_115 (fun H locs hO hS => ?_)
  have h := h _ rfl
  refine lv_aload_n C0.1 C0.2.1 dX7_spread_116 rfl (lv_at hl 1 rfl) ?_
  obtain ⟨i7, h⟩ := h
  refine c_V C0 hO hS (mX5_doesAct h) i7 (by decide) rfl rfl tb_780 tb_740 tb_741 tb_91 tb_742 hd_X5_doesAct rfl ⟨⟨by decide, by decide⟩, by decide, by decide⟩ hl.1 rfl (Nat.le_of_ble_eq_true rfl) dX7_spread_117 (kI (fun r6 S5 H locs h hO hS => ?_))
  refine lv_if_eq (tgt := 135) C0.1 C0.2.1 dX7_spread_120 (by decide) (fun c8 => ?_) (fun c8 => ?_)
  · have h := h.1 c8
    exact e_V C0 Y hO hS h (Nat.le_refl _) (Nat.le_refl _) dX7_spread_135
  · have h := h.2 c8
    refine lv_aload_n C0.1 C0.2.1 dX7_spread_123 rfl (lv_at hl 1 rfl) ?_
    refine lv_aload_n C0.1 C0.2.1 dX7_spread_124 rfl (lv_at hl 0 rfl) ?_
    obtain ⟨i9, h⟩ := h
    obtain ⟨a10, ea10, h⟩ := h
    refine g7_8 C0 hO i9 ea10 tb_194 dX7_spread_125 ?_
    refine lv_aload_n C0.1 C0.2.1 dX7_spread_128 rfl (lv_at hl 1 rfl) ?_
    obtain ⟨i13, h⟩ := h
    refine c_V C0 hO hS (mX5_over h) i13 (by decide) rfl rfl tb_887 tb_361 tb_362 tb_91 tb_363 hd_X5_over rfl ⟨⟨by decide, by decide⟩, by decide, by decide⟩ hl.1 rfl (Nat.le_of_ble_eq_true rfl) dX7_spread_129 (kI (fun r12 S11 H locs h hO hS => ?_))
    obtain ⟨i15, h⟩ := h
    refine c_V C0 hO hS (mX5_carry h) i15 (by decide) rfl rfl tb_888 tb_365 tb_366 tb_91 tb_367 hd_X5_carry rfl ⟨⟨by decide, by decide⟩, by decide, by decide⟩ hl.1 rfl (Nat.le_of_ble_eq_true rfl) dX7_spread_132 (kV (fun S14 H locs h hO hS => ?_))
    exact e_V C0 Y hO hS h (Nat.le_refl _) (Nat.le_refl _) dX7_spread_135
def wX7_spread_b110 (x0 : Nat) (x1 : Nat) (Φ : Hp → Prop) (S : Hp) (z0 : Nat) (z1 : Int32) : Prop := wX7_spread_b115 x0 x1 Φ S z0 z1 1
set_option maxHeartbeats 4000000 in
set_option maxRecDepth 100000 in
theorem bX7_spread_b110 {p : Program} {l : Launch} {e : Env} {s : State} {m : MethodId} {args : Array Value} {below : List Frame} {meth : Method} {c : Code} {G : Gw} {x0 : Nat} {x1 : Nat} {Φ : Hp → Prop} (C0 : Mx p s m c cX7_spread 2 args yX7_spread.cls G) (Y : My meth none)  : ∀ (S : Hp) (z0 : Nat) (z1 : Int32) (H : Heap) (locs : List Loc) (ls : Array Slot), wX7_spread_b110 x0 x1 Φ S z0 z1 → Ok G S H → va_S (Ab G.b) s.heap H locs → lv_has ls 2 [(0, .ref x0), (1, .ref x1)] → W p l e rm_X7_spread s m args below meth c H locs 0 0 (MQ below (gQ G (PV Φ)) args s rm_X7_spread.cells rm_X7_spread.slots (Ab G.b)) (F0 m 110 ls [.int z1, .ref z0]) := by
  intro S z0 z1 H locs ls h hO hS hl
  unfold wX7_spread_b110 at h
  refine lv_iconst (v := 1) C0.1 C0.2.1 dX7_spread_110 (by decide) ?_
  refine lv_goto (tgt := 115) C0.1 C0.2.1 dX7_spread_111 (by decide) ?_
  exact bX7_spread_b115 C0 Y _ _ _ _ _ _ _ h hO hS (lv_sub hl [0, 1] rfl)
def wX7_spread_b114 (x0 : Nat) (x1 : Nat) (Φ : Hp → Prop) (S : Hp) (z0 : Nat) (z1 : Int32) : Prop := wX7_spread_b115 x0 x1 Φ S z0 z1 0
set_option maxHeartbeats 4000000 in
set_option maxRecDepth 100000 in
theorem bX7_spread_b114 {p : Program} {l : Launch} {e : Env} {s : State} {m : MethodId} {args : Array Value} {below : List Frame} {meth : Method} {c : Code} {G : Gw} {x0 : Nat} {x1 : Nat} {Φ : Hp → Prop} (C0 : Mx p s m c cX7_spread 2 args yX7_spread.cls G) (Y : My meth none)  : ∀ (S : Hp) (z0 : Nat) (z1 : Int32) (H : Heap) (locs : List Loc) (ls : Array Slot), wX7_spread_b114 x0 x1 Φ S z0 z1 → Ok G S H → va_S (Ab G.b) s.heap H locs → lv_has ls 2 [(0, .ref x0), (1, .ref x1)] → W p l e rm_X7_spread s m args below meth c H locs 0 0 (MQ below (gQ G (PV Φ)) args s rm_X7_spread.cells rm_X7_spread.slots (Ab G.b)) (F0 m 114 ls [.int z1, .ref z0]) := by
  intro S z0 z1 H locs ls h hO hS hl
  unfold wX7_spread_b114 at h
  refine lv_iconst (v := 0) C0.1 C0.2.1 dX7_spread_114 (by decide) ?_
  exact bX7_spread_b115 C0 Y _ _ _ _ _ _ _ h hO hS (lv_sub hl [0, 1] rfl)
def wX7_spread_b84 (x0 : Nat) (x1 : Nat) (Φ : Hp → Prop) (S : Hp) (z0 : Nat) (z1 : Int32) : Prop := isA S x0 7 ∧ ∃ a2, S.FR 454 x0 = some a2 ∧ isA S x1 5 ∧ isA S a2 23 ∧ vp_in (S.FI 324 x1) (S.N a2) ∧ (((S.AI a2 ((S.FI 324 x1).toNatClampNeg)) = 0 → wX7_spread_b114 x0 x1 Φ S z0 z1) ∧ (¬ ((S.AI a2 ((S.FI 324 x1).toNatClampNeg)) = 0) → wX5_isJerky S x1 (fun S7 r8 => ((r8 = 0 → wX7_spread_b114 x0 x1 Φ S7 z0 z1) ∧ (¬ (r8 = 0) → isA S7 x1 5 ∧ ((¬ (S7.FI 328 x1) = 0 → wX7_spread_b114 x0 x1 Φ S7 z0 z1) ∧ ((S7.FI 328 x1) = 0 → wX7_spread_b110 x0 x1 Φ S7 z0 z1)))))))
set_option maxHeartbeats 4000000 in
set_option maxRecDepth 100000 in
theorem bX7_spread_b84 {p : Program} {l : Launch} {e : Env} {s : State} {m : MethodId} {args : Array Value} {below : List Frame} {meth : Method} {c : Code} {G : Gw} {x0 : Nat} {x1 : Nat} {Φ : Hp → Prop} (C0 : Mx p s m c cX7_spread 2 args yX7_spread.cls G) (Y : My meth none)  : ∀ (S : Hp) (z0 : Nat) (z1 : Int32) (H : Heap) (locs : List Loc) (ls : Array Slot), wX7_spread_b84 x0 x1 Φ S z0 z1 → Ok G S H → va_S (Ab G.b) s.heap H locs → lv_has ls 2 [(0, .ref x0), (1, .ref x1)] → W p l e rm_X7_spread s m args below meth c H locs 0 0 (MQ below (gQ G (PV Φ)) args s rm_X7_spread.cells rm_X7_spread.slots (Ab G.b)) (F0 m 84 ls [.int z1, .ref z0]) := by
  intro S z0 z1 H locs ls h hO hS hl
  unfold wX7_spread_b84 at h
  refine lv_aload_n C0.1 C0.2.1 dX7_spread_84 rfl (lv_at hl 0 rfl) ?_
  obtain ⟨i1, h⟩ := h
  obtain ⟨a2, ea2, h⟩ := h
  refine g7_6 C0 hO i1 ea2 tb_192 dX7_spread_85 ?_
  refine lv_aload_n C0.1 C0.2.1 dX7_spread_88 rfl (lv_at hl 1 rfl) ?_
  obtain ⟨i3, h⟩ := h
  refine g5_4 C0 hO i3 tb_637 dX7_spread_89 ?_
  obtain ⟨i4, h⟩ := h
  obtain ⟨e5, h⟩ := h
  refine r_zald C0 hO i4 e5 dX7_spread_92 ?_
  refine lv_if_eq (tgt := 114) C0.1 C0.2.1 dX7_spread_93 (by decide) (fun c6 => ?_) (fun c6 => ?_)
  · have h := h.1 c6
    exact bX7_spread_b114 C0 Y _ _ _ _ _ _ h hO hS (lv_sub hl [0, 1] rfl)
  · have h := h.2 c6
    refine lv_aload_n C0.1 C0.2.1 dX7_spread_96 rfl (lv_at hl 1 rfl) ?_
    refine c_V C0 hO hS (mX5_isJerky h) i3 (by decide) rfl rfl tb_883 tb_884 tb_885 tb_91 tb_886 hd_X5_isJerky rfl ⟨⟨by decide, by decide⟩, by decide, by decide⟩ hl.1 rfl (Nat.le_of_ble_eq_true rfl) dX7_spread_97 (kI (fun r8 S7 H locs h hO hS => ?_))
    refine lv_if_eq (tgt := 114) C0.1 C0.2.1 dX7_spread_100 (by decide) (fun c9 => ?_) (fun c9 => ?_)
    · have h := h.1 c9
      exact bX7_spread_b114 C0 Y _ _ _ _ _ _ h hO hS (lv_sub hl [0, 1] rfl)
    · have h := h.2 c9
      refine lv_aload_n C0.1 C0.2.1 dX7_spread_103 rfl (lv_at hl 1 rfl) ?_
      obtain ⟨i10, h⟩ := h
      refine g5_8 C0 hO i10 tb_644 dX7_spread_104 ?_
      refine lv_if_ne (tgt := 114) C0.1 C0.2.1 dX7_spread_107 (by decide) (fun c11 => ?_) (fun c11 => ?_)
      · have h := h.1 c11
        exact bX7_spread_b114 C0 Y _ _ _ _ _ _ h hO hS (lv_sub hl [0, 1] rfl)
      · have h := h.2 c11
        exact bX7_spread_b110 C0 Y _ _ _ _ _ _ h hO hS (lv_sub hl [0, 1] rfl)
def wX7_spread_b44 (x0 : Nat) (x1 : Nat) (Φ : Hp → Prop) (S : Hp) (z0 : Nat) (z1 : Int32) (z2 : Int32) : Prop := isA S z0 23 ∧ vp_in z1 (S.N z0) ∧ nb z2 ∧ ∀ S4, S4 = S.setAI z0 z1.toNatClampNeg z2 → isA S4 x0 7 ∧ ∃ a6, S4.FR 455 x0 = some a6 ∧ isA S4 x1 5 ∧ ∃ a8, S4.FR 455 x0 = some a8 ∧ isA S4 a8 23 ∧ vp_in (S4.FI 322 x1) (S4.N a8) ∧ ((¬ (S4.AI a8 ((S4.FI 322 x1).toNatClampNeg)) = 0 → wX7_spread_b110 x0 x1 Φ S4 a6 (S4.FI 324 x1)) ∧ ((S4.AI a8 ((S4.FI 322 x1).toNatClampNeg)) = 0 → wX5_hasSecond S4 x1 (fun S12 r13 => ((r13 = 0 → wX7_spread_b84 x0 x1 Φ S12 a6 (S4.FI 324 x1)) ∧ (¬ (r13 = 0) → isA S12 x0 7 ∧ ∃ a16, S12.FR 455 x0 = some a16 ∧ isA S12 x1 5 ∧ isA S12 a16 23 ∧ vp_in (S12.FI 323 x1) (S12.N a16) ∧ ((¬ (S12.AI a16 ((S12.FI 323 x1).toNatClampNeg)) = 0 → wX7_spread_b110 x0 x1 Φ S12 a6 (S4.FI 324 x1)) ∧ ((S12.AI a16 ((S12.FI 323 x1).toNatClampNeg)) = 0 → wX7_spread_b84 x0 x1 Φ S12 a6 (S4.FI 324 x1))))))))
set_option maxHeartbeats 4000000 in
set_option maxRecDepth 100000 in
theorem bX7_spread_b44 {p : Program} {l : Launch} {e : Env} {s : State} {m : MethodId} {args : Array Value} {below : List Frame} {meth : Method} {c : Code} {G : Gw} {x0 : Nat} {x1 : Nat} {Φ : Hp → Prop} (C0 : Mx p s m c cX7_spread 2 args yX7_spread.cls G) (Y : My meth none)  : ∀ (S : Hp) (z0 : Nat) (z1 : Int32) (z2 : Int32) (H : Heap) (locs : List Loc) (ls : Array Slot), wX7_spread_b44 x0 x1 Φ S z0 z1 z2 → Ok G S H → va_S (Ab G.b) s.heap H locs → lv_has ls 2 [(0, .ref x0), (1, .ref x1)] → W p l e rm_X7_spread s m args below meth c H locs 0 0 (MQ below (gQ G (PV Φ)) args s rm_X7_spread.cells rm_X7_spread.slots (Ab G.b)) (F0 m 44 ls [.int z2, .int z1, .ref z0]) := by
  intro S z0 z1 z2 H locs ls h hO hS hl
  unfold wX7_spread_b44 at h
  obtain ⟨i1, h⟩ := h
  obtain ⟨e2, h⟩ := h
  obtain ⟨e3, h⟩ := h
  refine r_zast C0 hO hS i1 e2 e3 dX7_spread_44 (fun H locs hO hS => ?_)
  have h := h _ rfl
  refine lv_aload_n C0.1 C0.2.1 dX7_spread_45 rfl (lv_at hl 0 rfl) ?_
  obtain ⟨i5, h⟩ := h
  obtain ⟨a6, ea6, h⟩ := h
  refine g7_7 C0 hO i5 ea6 tb_193 dX7_spread_46 ?_
  refine lv_aload_n C0.1 C0.2.1 dX7_spread_49 rfl (lv_at hl 1 rfl) ?_
  obtain ⟨i7, h⟩ := h
  refine g5_4 C0 hO i7 tb_637 dX7_spread_50 ?_
  refine lv_aload_n C0.1 C0.2.1 dX7_spread_53 rfl (lv_at hl 0 rfl) ?_
  obtain ⟨a8, ea8, h⟩ := h
  refine g7_7 C0 hO i5 ea8 tb_193 dX7_spread_54 ?_
  refine lv_aload_n C0.1 C0.2.1 dX7_spread_57 rfl (lv_at hl 1 rfl) ?_
  refine g5_2 C0 hO i7 tb_631 dX7_spread_58 ?_
  obtain ⟨i9, h⟩ := h
  obtain ⟨e10, h⟩ := h
  refine r_zald C0 hO i9 e10 dX7_spread_61 ?_
  refine lv_if_ne (tgt := 110) C0.1 C0.2.1 dX7_spread_62 (by decide) (fun c11 => ?_) (fun c11 => ?_)
  · have h := h.1 c11
    exact bX7_spread_b110 C0 Y _ _ _ _ _ _ h hO hS (lv_sub hl [0, 1] rfl)
  · have h := h.2 c11
    refine lv_aload_n C0.1 C0.2.1 dX7_spread_65 rfl (lv_at hl 1 rfl) ?_
    refine c_V C0 hO hS (mX5_hasSecond h) i7 (by decide) rfl rfl tb_403 tb_376 tb_377 tb_91 tb_378 hd_X5_hasSecond rfl ⟨⟨by decide, by decide⟩, by decide, by decide⟩ hl.1 rfl (Nat.le_of_ble_eq_true rfl) dX7_spread_66 (kI (fun r13 S12 H locs h hO hS => ?_))
    refine lv_if_eq (tgt := 84) C0.1 C0.2.1 dX7_spread_69 (by decide) (fun c14 => ?_) (fun c14 => ?_)
    · have h := h.1 c14
      exact bX7_spread_b84 C0 Y _ _ _ _ _ _ h hO hS (lv_sub hl [0, 1] rfl)
    · have h := h.2 c14
      refine lv_aload_n C0.1 C0.2.1 dX7_spread_72 rfl (lv_at hl 0 rfl) ?_
      obtain ⟨i15, h⟩ := h
      obtain ⟨a16, ea16, h⟩ := h
      refine g7_7 C0 hO i15 ea16 tb_193 dX7_spread_73 ?_
      refine lv_aload_n C0.1 C0.2.1 dX7_spread_76 rfl (lv_at hl 1 rfl) ?_
      obtain ⟨i17, h⟩ := h
      refine g5_3 C0 hO i17 tb_634 dX7_spread_77 ?_
      obtain ⟨i18, h⟩ := h
      obtain ⟨e19, h⟩ := h
      refine r_zald C0 hO i18 e19 dX7_spread_80 ?_
      refine lv_if_ne (tgt := 110) C0.1 C0.2.1 dX7_spread_81 (by decide) (fun c20 => ?_) (fun c20 => ?_)
      · have h := h.1 c20
        exact bX7_spread_b110 C0 Y _ _ _ _ _ _ h hO hS (lv_sub hl [0, 1] rfl)
      · have h := h.2 c20
        exact bX7_spread_b84 C0 Y _ _ _ _ _ _ h hO hS (lv_sub hl [0, 1] rfl)
def wX7_spread_b39 (x0 : Nat) (x1 : Nat) (Φ : Hp → Prop) (S : Hp) (z0 : Nat) (z1 : Int32) : Prop := wX7_spread_b44 x0 x1 Φ S z0 z1 1
set_option maxHeartbeats 4000000 in
set_option maxRecDepth 100000 in
theorem bX7_spread_b39 {p : Program} {l : Launch} {e : Env} {s : State} {m : MethodId} {args : Array Value} {below : List Frame} {meth : Method} {c : Code} {G : Gw} {x0 : Nat} {x1 : Nat} {Φ : Hp → Prop} (C0 : Mx p s m c cX7_spread 2 args yX7_spread.cls G) (Y : My meth none)  : ∀ (S : Hp) (z0 : Nat) (z1 : Int32) (H : Heap) (locs : List Loc) (ls : Array Slot), wX7_spread_b39 x0 x1 Φ S z0 z1 → Ok G S H → va_S (Ab G.b) s.heap H locs → lv_has ls 2 [(0, .ref x0), (1, .ref x1)] → W p l e rm_X7_spread s m args below meth c H locs 0 0 (MQ below (gQ G (PV Φ)) args s rm_X7_spread.cells rm_X7_spread.slots (Ab G.b)) (F0 m 39 ls [.int z1, .ref z0]) := by
  intro S z0 z1 H locs ls h hO hS hl
  unfold wX7_spread_b39 at h
  refine lv_iconst (v := 1) C0.1 C0.2.1 dX7_spread_39 (by decide) ?_
  refine lv_goto (tgt := 44) C0.1 C0.2.1 dX7_spread_40 (by decide) ?_
  exact bX7_spread_b44 C0 Y _ _ _ _ _ _ _ h hO hS (lv_sub hl [0, 1] rfl)
def wX7_spread_b43 (x0 : Nat) (x1 : Nat) (Φ : Hp → Prop) (S : Hp) (z0 : Nat) (z1 : Int32) : Prop := wX7_spread_b44 x0 x1 Φ S z0 z1 0
set_option maxHeartbeats 4000000 in
set_option maxRecDepth 100000 in
theorem bX7_spread_b43 {p : Program} {l : Launch} {e : Env} {s : State} {m : MethodId} {args : Array Value} {below : List Frame} {meth : Method} {c : Code} {G : Gw} {x0 : Nat} {x1 : Nat} {Φ : Hp → Prop} (C0 : Mx p s m c cX7_spread 2 args yX7_spread.cls G) (Y : My meth none)  : ∀ (S : Hp) (z0 : Nat) (z1 : Int32) (H : Heap) (locs : List Loc) (ls : Array Slot), wX7_spread_b43 x0 x1 Φ S z0 z1 → Ok G S H → va_S (Ab G.b) s.heap H locs → lv_has ls 2 [(0, .ref x0), (1, .ref x1)] → W p l e rm_X7_spread s m args below meth c H locs 0 0 (MQ below (gQ G (PV Φ)) args s rm_X7_spread.cells rm_X7_spread.slots (Ab G.b)) (F0 m 43 ls [.int z1, .ref z0]) := by
  intro S z0 z1 H locs ls h hO hS hl
  unfold wX7_spread_b43 at h
  refine lv_iconst (v := 0) C0.1 C0.2.1 dX7_spread_43 (by decide) ?_
  exact bX7_spread_b44 C0 Y _ _ _ _ _ _ _ h hO hS (lv_sub hl [0, 1] rfl)
def wX7_spread_b0 (x0 : Nat) (x1 : Nat) (Φ : Hp → Prop) (S : Hp) : Prop := isA S x0 7 ∧ ∃ a2, S.FR 454 x0 = some a2 ∧ isA S x1 5 ∧ ∃ a4, S.FR 454 x0 = some a4 ∧ isA S a4 23 ∧ vp_in (S.FI 322 x1) (S.N a4) ∧ ((¬ (S.AI a4 ((S.FI 322 x1).toNatClampNeg)) = 0 → wX7_spread_b39 x0 x1 Φ S a2 (S.FI 324 x1)) ∧ ((S.AI a4 ((S.FI 322 x1).toNatClampNeg)) = 0 → wX5_hasSecond S x1 (fun S8 r9 => ((r9 = 0 → wX7_spread_b43 x0 x1 Φ S8 a2 (S.FI 324 x1)) ∧ (¬ (r9 = 0) → isA S8 x0 7 ∧ ∃ a12, S8.FR 454 x0 = some a12 ∧ isA S8 x1 5 ∧ isA S8 a12 23 ∧ vp_in (S8.FI 323 x1) (S8.N a12) ∧ (((S8.AI a12 ((S8.FI 323 x1).toNatClampNeg)) = 0 → wX7_spread_b43 x0 x1 Φ S8 a2 (S.FI 324 x1)) ∧ (¬ ((S8.AI a12 ((S8.FI 323 x1).toNatClampNeg)) = 0) → wX7_spread_b39 x0 x1 Φ S8 a2 (S.FI 324 x1))))))))
set_option maxHeartbeats 4000000 in
set_option maxRecDepth 100000 in
theorem bX7_spread_b0 {p : Program} {l : Launch} {e : Env} {s : State} {m : MethodId} {args : Array Value} {below : List Frame} {meth : Method} {c : Code} {G : Gw} {x0 : Nat} {x1 : Nat} {Φ : Hp → Prop} (C0 : Mx p s m c cX7_spread 2 args yX7_spread.cls G) (Y : My meth none)  : ∀ (S : Hp) (H : Heap) (locs : List Loc) (ls : Array Slot), wX7_spread_b0 x0 x1 Φ S → Ok G S H → va_S (Ab G.b) s.heap H locs → lv_has ls 2 [(0, .ref x0), (1, .ref x1)] → W p l e rm_X7_spread s m args below meth c H locs 0 0 (MQ below (gQ G (PV Φ)) args s rm_X7_spread.cells rm_X7_spread.slots (Ab G.b)) (F0 m 0 ls []) := by
  intro S H locs ls h hO hS hl
  unfold wX7_spread_b0 at h
  refine lv_aload_n C0.1 C0.2.1 dX7_spread_0 rfl (lv_at hl 0 rfl) ?_
  obtain ⟨i1, h⟩ := h
  obtain ⟨a2, ea2, h⟩ := h
  refine g7_6 C0 hO i1 ea2 tb_192 dX7_spread_1 ?_
  refine lv_aload_n C0.1 C0.2.1 dX7_spread_4 rfl (lv_at hl 1 rfl) ?_
  obtain ⟨i3, h⟩ := h
  refine g5_4 C0 hO i3 tb_637 dX7_spread_5 ?_
  refine lv_aload_n C0.1 C0.2.1 dX7_spread_8 rfl (lv_at hl 0 rfl) ?_
  obtain ⟨a4, ea4, h⟩ := h
  refine g7_6 C0 hO i1 ea4 tb_192 dX7_spread_9 ?_
  refine lv_aload_n C0.1 C0.2.1 dX7_spread_12 rfl (lv_at hl 1 rfl) ?_
  refine g5_2 C0 hO i3 tb_631 dX7_spread_13 ?_
  obtain ⟨i5, h⟩ := h
  obtain ⟨e6, h⟩ := h
  refine r_zald C0 hO i5 e6 dX7_spread_16 ?_
  refine lv_if_ne (tgt := 39) C0.1 C0.2.1 dX7_spread_17 (by decide) (fun c7 => ?_) (fun c7 => ?_)
  · have h := h.1 c7
    exact bX7_spread_b39 C0 Y _ _ _ _ _ _ h hO hS (lv_sub hl [0, 1] rfl)
  · have h := h.2 c7
    refine lv_aload_n C0.1 C0.2.1 dX7_spread_20 rfl (lv_at hl 1 rfl) ?_
    refine c_V C0 hO hS (mX5_hasSecond h) i3 (by decide) rfl rfl tb_403 tb_376 tb_377 tb_91 tb_378 hd_X5_hasSecond rfl ⟨⟨by decide, by decide⟩, by decide, by decide⟩ hl.1 rfl (Nat.le_of_ble_eq_true rfl) dX7_spread_21 (kI (fun r9 S8 H locs h hO hS => ?_))
    refine lv_if_eq (tgt := 43) C0.1 C0.2.1 dX7_spread_24 (by decide) (fun c10 => ?_) (fun c10 => ?_)
    · have h := h.1 c10
      exact bX7_spread_b43 C0 Y _ _ _ _ _ _ h hO hS (lv_sub hl [0, 1] rfl)
    · have h := h.2 c10
      refine lv_aload_n C0.1 C0.2.1 dX7_spread_27 rfl (lv_at hl 0 rfl) ?_
      obtain ⟨i11, h⟩ := h
      obtain ⟨a12, ea12, h⟩ := h
      refine g7_6 C0 hO i11 ea12 tb_192 dX7_spread_28 ?_
      refine lv_aload_n C0.1 C0.2.1 dX7_spread_31 rfl (lv_at hl 1 rfl) ?_
      obtain ⟨i13, h⟩ := h
      refine g5_3 C0 hO i13 tb_634 dX7_spread_32 ?_
      obtain ⟨i14, h⟩ := h
      obtain ⟨e15, h⟩ := h
      refine r_zald C0 hO i14 e15 dX7_spread_35 ?_
      refine lv_if_eq (tgt := 43) C0.1 C0.2.1 dX7_spread_36 (by decide) (fun c16 => ?_) (fun c16 => ?_)
      · have h := h.1 c16
        exact bX7_spread_b43 C0 Y _ _ _ _ _ _ h hO hS (lv_sub hl [0, 1] rfl)
      · have h := h.2 c16
        exact bX7_spread_b39 C0 Y _ _ _ _ _ _ h hO hS (lv_sub hl [0, 1] rfl)
def wX7_spread (S : Hp) (x0 : Nat) (x1 : Nat) (Φ : Hp → Prop) : Prop := wX7_spread_b0 x0 x1 Φ S
set_option maxRecDepth 100000 in
theorem mX7_spread {l : Launch} {G : Gw} {S : Hp} {x0 : Nat} {x1 : Nat} {Φ : Hp → Prop} (h : wX7_spread S x0 x1 Φ) : gM l yX7_spread cX7_spread 2 none rm_X7_spread [.ref x0, .ref x1] G S (PV Φ) := by
  unfold gM
  refine Met.ofW (cc := cX7_spread) (maxL := 2) (ret := none) (by decide) rfl ?_
  intro p e s m args below meth c s₁ B hml hv
  obtain ⟨rfl, hw⟩ := hv
  obtain ⟨C0, Y, hO⟩ := mx_of B hml hw
  have hS : va_S (Ab G.b) s.heap s.heap [] := va_S.rf
  have hl := lv_entry ([.ref x0, .ref x1]) (n := 2) (Nat.le_of_ble_eq_true rfl)
  rw [lg_entry_eq]
  generalize (lg_sl ([.ref x0, .ref x1]) ++ List.replicate (2 - (lg_sl ([.ref x0, .ref x1])).length) Slot.unset).toArray = ls at hl ⊢
  have hl : lv_has ls 2 [(0, .ref x0), (1, .ref x1)] := hl
  exact bX7_spread_b0 C0 Y S _ _ _ h hO hS hl

def rm_X7_findRatios : Room := { frames := 7, cells := 3, slots := 18, locals := 111 }
def wX7_findRatios_b71 (x0 : Nat) (x1 : Int32) (x2 : Int32) (Φ : Hp → Prop) (Ψ : Hp → String → Prop) (k50 : Hp → Int32 → Prop) (S : Hp) (v3 : Int32) (z0 : Nat) (z1 : Int32) (z2 : Int32) : Prop := isA S z0 23 ∧ vp_in z1 (S.N z0) ∧ nb z2 ∧ ∀ S4, S4 = S.setAI z0 z1.toNatClampNeg z2 → isA S4 x0 7 ∧ ∃ a6, S4.FR 455 x0 = some a6 ∧ isA S4 a6 23 ∧ vp_in v3 (S4.N a6) ∧ ∀ S9, S9 = S4.setAI a6 v3.toNatClampNeg 0 → k50 S9 (v3 + 1)
set_option maxHeartbeats 4000000 in
set_option maxRecDepth 100000 in
theorem bX7_findRatios_b71 {p : Program} {l : Launch} {e : Env} {s : State} {m : MethodId} {args : Array Value} {below : List Frame} {meth : Method} {c : Code} {G : Gw} {x0 : Nat} {x1 : Int32} {x2 : Int32} {Φ : Hp → Prop} {Ψ : Hp → String → Prop} (C0 : Mx p s m c cX7_findRatios 4 args yX7_findRatios.cls G) (Y : My meth none) (hl9 : l.stackTraces = false) (hx9 : ∀ x ∈ c.exceptionTable.toList, False) {k50 : Hp → Int32 → Prop} (hk50 : ∀ (S : Hp) (v3 : Int32) (H : Heap) (locs : List Loc) (ls : Array Slot) (cells slots : Nat), k50 S v3 → Ok G S H → va_S (Ab G.b) s.heap H locs → lv_has ls 4 [(0, .ref x0), (1, .int x1), (2, .int x2), (3, .int v3)] → cells + (1) ≤ 3 → slots + (6) ≤ 18 → W p l e rm_X7_findRatios s m args below meth c H locs cells slots (vx_MQ below (gQ G (PV Φ)) (gX G Ψ) args s rm_X7_findRatios.cells rm_X7_findRatios.slots (Ab G.b)) (F0 m 50 ls [])) : ∀ (S : Hp) (v3 : Int32) (z0 : Nat) (z1 : Int32) (z2 : Int32) (H : Heap) (locs : List Loc) (ls : Array Slot) (cells slots : Nat), wX7_findRatios_b71 x0 x1 x2 Φ Ψ k50 S v3 z0 z1 z2 → Ok G S H → va_S (Ab G.b) s.heap H locs → lv_has ls 4 [(0, .ref x0), (1, .int x1), (2, .int x2), (3, .int v3)] → cells + (1) ≤ 3 → slots + (6) ≤ 18 → W p l e rm_X7_findRatios s m args below meth c H locs cells slots (vx_MQ below (gQ G (PV Φ)) (gX G Ψ) args s rm_X7_findRatios.cells rm_X7_findRatios.slots (Ab G.b)) (F0 m 71 ls [.int z2, .int z1, .ref z0]) := by
  intro S v3 z0 z1 z2 H locs ls cells slots h hO hS hl hcc hss
  unfold wX7_findRatios_b71 at h
  obtain ⟨i1, h⟩ := h
  obtain ⟨e2, h⟩ := h
  obtain ⟨e3, h⟩ := h
  refine r_zast C0 hO hS i1 e2 e3 dX7_findRatios_71 (fun H locs hO hS => ?_)
  have h := h _ rfl
  refine lv_aload_n C0.1 C0.2.1 dX7_findRatios_72 rfl (lv_at hl 0 rfl) ?_
  obtain ⟨i5, h⟩ := h
  obtain ⟨a6, ea6, h⟩ := h
  refine g7_7 C0 hO i5 ea6 tb_193 dX7_findRatios_73 ?_
  refine lv_iload_n C0.1 C0.2.1 dX7_findRatios_76 rfl (lv_at hl 3 rfl) ?_
  refine lv_iconst (v := 0) C0.1 C0.2.1 dX7_findRatios_77 (by decide) ?_
  obtain ⟨i7, h⟩ := h
  obtain ⟨e8, h⟩ := h
  refine r_zast C0 hO hS i7 e8 ⟨rfl, rfl⟩ dX7_findRatios_78 (fun H locs hO hS => ?_)
  have h := h _ rfl
  refine lv_iinc (v := _ + 1) C0.1 C0.2.1 dX7_findRatios_79 hl (k := 3) rfl rfl (by decide) rfl (fun ls hl => ?_)
  refine lv_goto (tgt := 50) C0.1 C0.2.1 dX7_findRatios_82 (by decide) ?_
  exact hk50 _ _ _ _ _ _ _ h hO hS (lv_sub hl [1, 2, 3, 0] rfl) (by omega) (by omega)
def wX7_findRatios_b87 (x0 : Nat) (x1 : Int32) (x2 : Int32) (Φ : Hp → Prop) (Ψ : Hp → String → Prop) (k87 : Hp → Int32 → Prop) (S : Hp) (v3 : Int32) : Prop := isA S x0 7 ∧ ∃ a2, S.FR 449 x0 = some a2 ∧ isA S a2 9 ∧ wJx4a65c_size_8abf5 S a2 (fun S3 r4 => ((r4 ≤ v3 → isA S3 x0 7 ∧ ∃ a8, S3.FR 455 x0 = some a8 ∧ isA S3 a8 23 ∧ vp_in x1 (S3.N a8) ∧ (((S3.AI a8 x1.toNatClampNeg) = 0 → Φ S3) ∧ (¬ ((S3.AI a8 x1.toNatClampNeg) = 0) → Ψ S3 "java/lang/UnsupportedOperationException"))) ∧ (¬ (r4 ≤ v3) → isA S3 x0 7 ∧ ∃ a13, S3.FR 449 x0 = some a13 ∧ isA S3 a13 9 ∧ wJx4a65c_get_915e3 S3 a13 v3 (fun S14 r15 => ∃ a17, r15 = some a17 ∧ isA S14 a17 5 ∧ isA S14 x0 7 ∧ wX7_spread S14 x0 a17 (fun S19 => k87 S19 (v3 + 1))))))
set_option maxHeartbeats 4000000 in
set_option maxRecDepth 100000 in
theorem bX7_findRatios_b87 {p : Program} {l : Launch} {e : Env} {s : State} {m : MethodId} {args : Array Value} {below : List Frame} {meth : Method} {c : Code} {G : Gw} {x0 : Nat} {x1 : Int32} {x2 : Int32} {Φ : Hp → Prop} {Ψ : Hp → String → Prop} (C0 : Mx p s m c cX7_findRatios 4 args yX7_findRatios.cls G) (Y : My meth none) (hl9 : l.stackTraces = false) (hx9 : ∀ x ∈ c.exceptionTable.toList, False) {k87 : Hp → Int32 → Prop} (hk87 : ∀ (S : Hp) (v3 : Int32) (H : Heap) (locs : List Loc) (ls : Array Slot) (cells slots : Nat), k87 S v3 → Ok G S H → va_S (Ab G.b) s.heap H locs → lv_has ls 4 [(0, .ref x0), (1, .int x1), (2, .int x2), (3, .int v3)] → cells + (1) ≤ 3 → slots + (6) ≤ 18 → W p l e rm_X7_findRatios s m args below meth c H locs cells slots (vx_MQ below (gQ G (PV Φ)) (gX G Ψ) args s rm_X7_findRatios.cells rm_X7_findRatios.slots (Ab G.b)) (F0 m 87 ls [])) : ∀ (S : Hp) (v3 : Int32) (H : Heap) (locs : List Loc) (ls : Array Slot) (cells slots : Nat), wX7_findRatios_b87 x0 x1 x2 Φ Ψ k87 S v3 → Ok G S H → va_S (Ab G.b) s.heap H locs → lv_has ls 4 [(0, .ref x0), (1, .int x1), (2, .int x2), (3, .int v3)] → cells + (1) ≤ 3 → slots + (6) ≤ 18 → W p l e rm_X7_findRatios s m args below meth c H locs cells slots (vx_MQ below (gQ G (PV Φ)) (gX G Ψ) args s rm_X7_findRatios.cells rm_X7_findRatios.slots (Ab G.b)) (F0 m 87 ls []) := by
  intro S v3 H locs ls cells slots h hO hS hl hcc hss
  unfold wX7_findRatios_b87 at h
  refine lv_iload_n C0.1 C0.2.1 dX7_findRatios_87 rfl (lv_at hl 3 rfl) ?_
  refine lv_aload_n C0.1 C0.2.1 dX7_findRatios_88 rfl (lv_at hl 0 rfl) ?_
  obtain ⟨i1, h⟩ := h
  obtain ⟨a2, ea2, h⟩ := h
  refine g7_1 C0 hO i1 ea2 tb_187 dX7_findRatios_89 ?_
  obtain ⟨i5, h⟩ := h
  refine c_V C0 hO hS (mJx4a65c_size_8abf5 h) i5 (by decide) rfl rfl tb_261 tb_262 tb_263 tb_77 tb_264 hd_Jx4a65c_size_8abf5 rfl ⟨⟨by decide, by decide⟩, by show _ + 0 ≤ 3; omega, by show _ + 0 ≤ 18; omega⟩ hl.1 rfl (Nat.le_of_ble_eq_true rfl) dX7_findRatios_92 (kI (fun r4 S3 H locs h hO hS => ?_))
  change W _ _ _ _ _ _ _ _ _ _ _ _ (_ + 0) (_ + 0) _ _
  refine lv_icmp_ge (tgt := 119) C0.1 C0.2.1 dX7_findRatios_95 (by decide) (fun c6 => ?_) (fun c6 => ?_)
  · have h := h.1 c6
    refine lv_aload_n C0.1 C0.2.1 dX7_findRatios_119 rfl (lv_at hl 0 rfl) ?_
    obtain ⟨i7, h⟩ := h
    obtain ⟨a8, ea8, h⟩ := h
    refine g7_7 C0 hO i7 ea8 tb_193 dX7_findRatios_120 ?_
    refine lv_iload_n C0.1 C0.2.1 dX7_findRatios_123 rfl (lv_at hl 1 rfl) ?_
    obtain ⟨i9, h⟩ := h
    obtain ⟨e10, h⟩ := h
    refine r_zald C0 hO i9 e10 dX7_findRatios_124 ?_
    refine lv_if_eq (tgt := 139) C0.1 C0.2.1 dX7_findRatios_125 (by decide) (fun c11 => ?_) (fun c11 => ?_)
    · have h := h.1 c11
      refine vx_ret ?_
      exact e_V C0 Y hO hS h (by show _ ≤ 3; omega) (by show _ ≤ 18; omega) dX7_findRatios_139
    · have h := h.2 c11
      exact t_W (text := "a geneva or ratchet is on a way") (names := xnm) C0 hl9 Y.2 hx9 hO hS xf_UnsupportedOperationException xnm_ok tb_602 tb_90 (by decide +kernel) xat_100 xgd_10000096 hl.1 h dX7_findRatios_128 dX7_findRatios_131 dX7_findRatios_132 dX7_findRatios_135 dX7_findRatios_138 (Nat.le_of_ble_eq_true rfl) (Nat.le_of_ble_eq_true rfl) (by show _ ≤ 3; omega) (by show _ ≤ 18; omega) (by show _ ≤ 3; omega) (by show _ ≤ 18; omega)
  · have h := h.2 c6
    refine lv_aload_n C0.1 C0.2.1 dX7_findRatios_98 rfl (lv_at hl 0 rfl) ?_
    refine lv_aload_n C0.1 C0.2.1 dX7_findRatios_99 rfl (lv_at hl 0 rfl) ?_
    obtain ⟨i12, h⟩ := h
    obtain ⟨a13, ea13, h⟩ := h
    refine g7_1 C0 hO i12 ea13 tb_187 dX7_findRatios_100 ?_
    refine lv_iload_n C0.1 C0.2.1 dX7_findRatios_103 rfl (lv_at hl 3 rfl) ?_
    obtain ⟨i16, h⟩ := h
    refine c_V C0 hO hS (mJx4a65c_get_915e3 h) i16 (by decide) rfl rfl tb_265 tb_266 tb_267 tb_77 tb_268 hd_Jx4a65c_get_915e3 rfl ⟨⟨by decide, by decide⟩, by show _ + 0 ≤ 3; omega, by show _ + 0 ≤ 18; omega⟩ hl.1 rfl (Nat.le_of_ble_eq_true rfl) dX7_findRatios_104 (kR (fun r15 S14 H locs h hO hS => ?_))
    change W _ _ _ _ _ _ _ _ _ _ _ _ (_ + 0) (_ + 0) _ _
    obtain ⟨a17, ea17, h⟩ := h
    subst ea17
    change W _ _ _ _ _ _ _ _ _ _ _ _ _ _ _ (F0 _ _ _ (.ref a17 :: _))
    obtain ⟨i18, h⟩ := h
    refine r_castO C0 hO i18 (by decide) rfl tb_329 dX7_findRatios_107 ?_
    obtain ⟨i20, h⟩ := h
    refine c_V C0 hO hS (mX7_spread h) i20 (by decide) rfl rfl tb_879 tb_881 tb_27 tb_74 tb_882 hd_X7_spread rfl ⟨⟨by decide, by decide⟩, by show _ + 0 ≤ 3; omega, by show _ + 0 ≤ 18; omega⟩ hl.1 rfl (Nat.le_of_ble_eq_true rfl) dX7_findRatios_110 (kV (fun S19 H locs h hO hS => ?_))
    change W _ _ _ _ _ _ _ _ _ _ _ _ (_ + 0) (_ + 0) _ _
    refine lv_iinc (v := _ + 1) C0.1 C0.2.1 dX7_findRatios_113 hl (k := 3) rfl rfl (by decide) rfl (fun ls hl => ?_)
    refine lv_goto (tgt := 87) C0.1 C0.2.1 dX7_findRatios_116 (by decide) ?_
    exact hk87 _ _ _ _ _ _ _ h hO hS (lv_sub hl [1, 2, 3, 0] rfl) (by omega) (by omega)
set_option maxHeartbeats 4000000 in
set_option maxRecDepth 100000 in
theorem lX7_findRatios_b87 {p : Program} {l : Launch} {e : Env} {s : State} {m : MethodId} {args : Array Value} {below : List Frame} {meth : Method} {c : Code} {G : Gw} {x0 : Nat} {x1 : Int32} {x2 : Int32} {Φ : Hp → Prop} {Ψ : Hp → String → Prop} (C0 : Mx p s m c cX7_findRatios 4 args yX7_findRatios.cls G) (Y : My meth none) (hl9 : l.stackTraces = false) (hx9 : ∀ x ∈ c.exceptionTable.toList, False)  : ∀ n9 : Nat, ∀ (S : Hp) (v3 : Int32) (H : Heap) (locs : List Loc) (ls : Array Slot) (cells slots : Nat), it2 (wX7_findRatios_b87 x0 x1 x2 Φ Ψ) n9 S v3 → Ok G S H → va_S (Ab G.b) s.heap H locs → lv_has ls 4 [(0, .ref x0), (1, .int x1), (2, .int x2), (3, .int v3)] → cells + (1) ≤ 3 → slots + (6) ≤ 18 → W p l e rm_X7_findRatios s m args below meth c H locs cells slots (vx_MQ below (gQ G (PV Φ)) (gX G Ψ) args s rm_X7_findRatios.cells rm_X7_findRatios.slots (Ab G.b)) (F0 m 87 ls []) := by
  intro n9
  induction n9 with
  | zero => intro S v3 H locs ls cells slots h; exact (h : False).elim
  | succ n9 ih => intro S v3 H locs ls cells slots h hO hS hl hcc hss; exact bX7_findRatios_b87 C0 Y hl9 hx9 ih S v3 H locs ls cells slots h hO hS hl (by omega) (by omega)
def wX7_findRatios_b50 (x0 : Nat) (x1 : Int32) (x2 : Int32) (Φ : Hp → Prop) (Ψ : Hp → String → Prop) (k50 : Hp → Int32 → Prop) (S : Hp) (v3 : Int32) : Prop := ((14 ≤ v3 → ∃ n, it2 (wX7_findRatios_b87 x0 x1 x2 Φ Ψ) n S 0) ∧ (¬ (14 ≤ v3) → isA S x0 7 ∧ ∃ a3, S.FR 454 x0 = some a3 ∧ ((¬ v3 = x2 → wX7_findRatios_b71 x0 x1 x2 Φ Ψ k50 S v3 a3 v3 0) ∧ (v3 = x2 → wX7_findRatios_b71 x0 x1 x2 Φ Ψ k50 S v3 a3 v3 1))))
set_option maxHeartbeats 4000000 in
set_option maxRecDepth 100000 in
theorem bX7_findRatios_b50 {p : Program} {l : Launch} {e : Env} {s : State} {m : MethodId} {args : Array Value} {below : List Frame} {meth : Method} {c : Code} {G : Gw} {x0 : Nat} {x1 : Int32} {x2 : Int32} {Φ : Hp → Prop} {Ψ : Hp → String → Prop} (C0 : Mx p s m c cX7_findRatios 4 args yX7_findRatios.cls G) (Y : My meth none) (hl9 : l.stackTraces = false) (hx9 : ∀ x ∈ c.exceptionTable.toList, False) {k50 : Hp → Int32 → Prop} (hk50 : ∀ (S : Hp) (v3 : Int32) (H : Heap) (locs : List Loc) (ls : Array Slot) (cells slots : Nat), k50 S v3 → Ok G S H → va_S (Ab G.b) s.heap H locs → lv_has ls 4 [(0, .ref x0), (1, .int x1), (2, .int x2), (3, .int v3)] → cells + (1) ≤ 3 → slots + (6) ≤ 18 → W p l e rm_X7_findRatios s m args below meth c H locs cells slots (vx_MQ below (gQ G (PV Φ)) (gX G Ψ) args s rm_X7_findRatios.cells rm_X7_findRatios.slots (Ab G.b)) (F0 m 50 ls [])) : ∀ (S : Hp) (v3 : Int32) (H : Heap) (locs : List Loc) (ls : Array Slot) (cells slots : Nat), wX7_findRatios_b50 x0 x1 x2 Φ Ψ k50 S v3 → Ok G S H → va_S (Ab G.b) s.heap H locs → lv_has ls 4 [(0, .ref x0), (1, .int x1), (2, .int x2), (3, .int v3)] → cells + (1) ≤ 3 → slots + (6) ≤ 18 → W p l e rm_X7_findRatios s m args below meth c H locs cells slots (vx_MQ below (gQ G (PV Φ)) (gX G Ψ) args s rm_X7_findRatios.cells rm_X7_findRatios.slots (Ab G.b)) (F0 m 50 ls []) := by
  intro S v3 H locs ls cells slots h hO hS hl hcc hss
  unfold wX7_findRatios_b50 at h
  refine lv_iload_n C0.1 C0.2.1 dX7_findRatios_50 rfl (lv_at hl 3 rfl) ?_
  refine lv_bipush (v := 14) C0.1 C0.2.1 dX7_findRatios_51 (by decide) ?_
  refine lv_icmp_ge (tgt := 85) C0.1 C0.2.1 dX7_findRatios_53 (by decide) (fun c1 => ?_) (fun c1 => ?_)
  · have h := h.1 c1
    refine lv_iconst (v := 0) C0.1 C0.2.1 dX7_findRatios_85 (by decide) ?_
    refine lv_istore_n C0.1 C0.2.1 dX7_findRatios_86 rfl hl (by decide) rfl (fun ls hl => ?_)
    obtain ⟨n9, h⟩ := h
    exact lX7_findRatios_b87 C0 Y hl9 hx9 n9 _ _ _ _ _ _ _ h hO hS (lv_sub hl [1, 2, 3, 0] rfl) (by omega) (by omega)
  · have h := h.2 c1
    refine lv_aload_n C0.1 C0.2.1 dX7_findRatios_56 rfl (lv_at hl 0 rfl) ?_
    obtain ⟨i2, h⟩ := h
    obtain ⟨a3, ea3, h⟩ := h
    refine g7_6 C0 hO i2 ea3 tb_192 dX7_findRatios_57 ?_
    refine lv_iload_n C0.1 C0.2.1 dX7_findRatios_60 rfl (lv_at hl 3 rfl) ?_
    refine lv_iload_n C0.1 C0.2.1 dX7_findRatios_61 rfl (lv_at hl 3 rfl) ?_
    refine lv_iload_n C0.1 C0.2.1 dX7_findRatios_62 rfl (lv_at hl 2 rfl) ?_
    refine lv_icmp_ne (tgt := 70) C0.1 C0.2.1 dX7_findRatios_63 (by decide) (fun c4 => ?_) (fun c4 => ?_)
    · have h := h.1 c4
      refine lv_iconst (v := 0) C0.1 C0.2.1 dX7_findRatios_70 (by decide) ?_
      exact bX7_findRatios_b71 C0 Y hl9 hx9 hk50 _ _ _ _ _ _ _ _ _ _ h hO hS (lv_sub hl [0, 1, 2, 3] rfl) (by omega) (by omega)
    · have h := h.2 c4
      refine lv_iconst (v := 1) C0.1 C0.2.1 dX7_findRatios_66 (by decide) ?_
      refine lv_goto (tgt := 71) C0.1 C0.2.1 dX7_findRatios_67 (by decide) ?_
      exact bX7_findRatios_b71 C0 Y hl9 hx9 hk50 _ _ _ _ _ _ _ _ _ _ h hO hS (lv_sub hl [0, 1, 2, 3] rfl) (by omega) (by omega)
set_option maxHeartbeats 4000000 in
set_option maxRecDepth 100000 in
theorem lX7_findRatios_b50 {p : Program} {l : Launch} {e : Env} {s : State} {m : MethodId} {args : Array Value} {below : List Frame} {meth : Method} {c : Code} {G : Gw} {x0 : Nat} {x1 : Int32} {x2 : Int32} {Φ : Hp → Prop} {Ψ : Hp → String → Prop} (C0 : Mx p s m c cX7_findRatios 4 args yX7_findRatios.cls G) (Y : My meth none) (hl9 : l.stackTraces = false) (hx9 : ∀ x ∈ c.exceptionTable.toList, False)  : ∀ n9 : Nat, ∀ (S : Hp) (v3 : Int32) (H : Heap) (locs : List Loc) (ls : Array Slot) (cells slots : Nat), it2 (wX7_findRatios_b50 x0 x1 x2 Φ Ψ) n9 S v3 → Ok G S H → va_S (Ab G.b) s.heap H locs → lv_has ls 4 [(0, .ref x0), (1, .int x1), (2, .int x2), (3, .int v3)] → cells + (1) ≤ 3 → slots + (6) ≤ 18 → W p l e rm_X7_findRatios s m args below meth c H locs cells slots (vx_MQ below (gQ G (PV Φ)) (gX G Ψ) args s rm_X7_findRatios.cells rm_X7_findRatios.slots (Ab G.b)) (F0 m 50 ls []) := by
  intro n9
  induction n9 with
  | zero => intro S v3 H locs ls cells slots h; exact (h : False).elim
  | succ n9 ih => intro S v3 H locs ls cells slots h hO hS hl hcc hss; exact bX7_findRatios_b50 C0 Y hl9 hx9 ih S v3 H locs ls cells slots h hO hS hl (by omega) (by omega)
def wX7_findRatios_b0 (x0 : Nat) (x1 : Int32) (x2 : Int32) (Φ : Hp → Prop) (Ψ : Hp → String → Prop) (S : Hp) : Prop := isA S x0 7 ∧ wX7_checkShaft S x0 x1 (fun S1 => isA S1 x0 7 ∧ wX7_checkShaft S1 x0 x2 (fun S3 => isA S3 x0 7 ∧ ∃ a6, S3.FR 452 x0 = some a6 ∧ isA S3 a6 21 ∧ vp_in x2 (S3.N a6) ∧ (((S3.AI a6 x2.toNatClampNeg) = (-1) → ∃ a10, S3.FR 456 x0 = some a10 ∧ isA S3 a10 4 ∧ wX4_reset S3 a10 (fun S11 => isA S11 x0 7 ∧ ∃ a14, S11.FR 456 x0 = some a14 ∧ isA S11 a14 4 ∧ wX4_put S11 a14 x2 1 1 (fun S15 => ∃ n, it2 (wX7_findRatios_b50 x0 x1 x2 Φ Ψ) n S15 0))) ∧ (¬ ((S3.AI a6 x2.toNatClampNeg) = (-1)) → Ψ S3 "java/lang/UnsupportedOperationException"))) Ψ) Ψ
set_option maxHeartbeats 4000000 in
set_option maxRecDepth 100000 in
theorem bX7_findRatios_b0 {p : Program} {l : Launch} {e : Env} {s : State} {m : MethodId} {args : Array Value} {below : List Frame} {meth : Method} {c : Code} {G : Gw} {x0 : Nat} {x1 : Int32} {x2 : Int32} {Φ : Hp → Prop} {Ψ : Hp → String → Prop} (C0 : Mx p s m c cX7_findRatios 4 args yX7_findRatios.cls G) (Y : My meth none) (hl9 : l.stackTraces = false) (hx9 : ∀ x ∈ c.exceptionTable.toList, False)  : ∀ (S : Hp) (H : Heap) (locs : List Loc) (ls : Array Slot) (cells slots : Nat), wX7_findRatios_b0 x0 x1 x2 Φ Ψ S → Ok G S H → va_S (Ab G.b) s.heap H locs → lv_has ls 4 [(0, .ref x0), (1, .int x1), (2, .int x2)] → cells + (3) ≤ 3 → slots + (18) ≤ 18 → W p l e rm_X7_findRatios s m args below meth c H locs cells slots (vx_MQ below (gQ G (PV Φ)) (gX G Ψ) args s rm_X7_findRatios.cells rm_X7_findRatios.slots (Ab G.b)) (F0 m 0 ls []) := by
  intro S H locs ls cells slots h hO hS hl hcc hss
  unfold wX7_findRatios_b0 at h
  refine lv_aload_n C0.1 C0.2.1 dX7_findRatios_0 rfl (lv_at hl 0 rfl) ?_
  refine lv_iload_n C0.1 C0.2.1 dX7_findRatios_1 rfl (lv_at hl 1 rfl) ?_
  obtain ⟨i2, h⟩ := h
  refine x_V C0 Y.2 hx9 hO hS (mX7_checkShaft hl9 h) i2 (by decide) rfl rfl tb_563 tb_565 tb_12 tb_74 tb_566 hd_X7_checkShaft rfl ⟨⟨by decide, by decide⟩, by show _ + 1 ≤ 3; omega, by show _ + 6 ≤ 18; omega⟩ hl.1 rfl (Nat.le_of_ble_eq_true rfl) dX7_findRatios_2 (by show _ + 1 ≤ 3; omega) (by show _ + 6 ≤ 18; omega) (kV (fun S1 H locs h hO hS => ?_))
  change W _ _ _ _ _ _ _ _ _ _ _ _ (_ + 1) (_ + 6) _ _
  refine lv_aload_n C0.1 C0.2.1 dX7_findRatios_5 rfl (lv_at hl 0 rfl) ?_
  refine lv_iload_n C0.1 C0.2.1 dX7_findRatios_6 rfl (lv_at hl 2 rfl) ?_
  obtain ⟨i4, h⟩ := h
  refine x_V C0 Y.2 hx9 hO hS (mX7_checkShaft hl9 h) i4 (by decide) rfl rfl tb_563 tb_565 tb_12 tb_74 tb_566 hd_X7_checkShaft rfl ⟨⟨by decide, by decide⟩, by show _ + 1 ≤ 3; omega, by show _ + 6 ≤ 18; omega⟩ hl.1 rfl (Nat.le_of_ble_eq_true rfl) dX7_findRatios_7 (by show _ + 1 ≤ 3; omega) (by show _ + 6 ≤ 18; omega) (kV (fun S3 H locs h hO hS => ?_))
  change W _ _ _ _ _ _ _ _ _ _ _ _ (_ + 1) (_ + 6) _ _
  refine lv_aload_n C0.1 C0.2.1 dX7_findRatios_10 rfl (lv_at hl 0 rfl) ?_
  obtain ⟨i5, h⟩ := h
  obtain ⟨a6, ea6, h⟩ := h
  refine g7_4 C0 hO i5 ea6 tb_190 dX7_findRatios_11 ?_
  refine lv_iload_n C0.1 C0.2.1 dX7_findRatios_14 rfl (lv_at hl 2 rfl) ?_
  obtain ⟨i7, h⟩ := h
  obtain ⟨e8, h⟩ := h
  refine r_iald C0 hO i7 e8 dX7_findRatios_15 ?_
  refine lv_iconst (v := (-1)) C0.1 C0.2.1 dX7_findRatios_16 (by decide) ?_
  refine lv_icmp_eq (tgt := 31) C0.1 C0.2.1 dX7_findRatios_17 (by decide) (fun c9 => ?_) (fun c9 => ?_)
  · have h := h.1 c9
    refine lv_aload_n C0.1 C0.2.1 dX7_findRatios_31 rfl (lv_at hl 0 rfl) ?_
    obtain ⟨a10, ea10, h⟩ := h
    refine g7_8 C0 hO i5 ea10 tb_194 dX7_findRatios_32 ?_
    obtain ⟨i12, h⟩ := h
    refine c_V C0 hO hS (mX4_reset h) i12 (by decide) rfl rfl tb_877 tb_314 tb_315 tb_78 tb_316 hd_X4_reset rfl ⟨⟨by decide, by decide⟩, by show _ + 0 ≤ 3; omega, by show _ + 0 ≤ 18; omega⟩ hl.1 rfl (Nat.le_of_ble_eq_true rfl) dX7_findRatios_35 (kV (fun S11 H locs h hO hS => ?_))
    change W _ _ _ _ _ _ _ _ _ _ _ _ (_ + 0) (_ + 0) _ _
    refine lv_aload_n C0.1 C0.2.1 dX7_findRatios_38 rfl (lv_at hl 0 rfl) ?_
    obtain ⟨i13, h⟩ := h
    obtain ⟨a14, ea14, h⟩ := h
    refine g7_8 C0 hO i13 ea14 tb_194 dX7_findRatios_39 ?_
    refine lv_iload_n C0.1 C0.2.1 dX7_findRatios_42 rfl (lv_at hl 2 rfl) ?_
    refine lv_lconst (v := 1) C0.1 C0.2.1 dX7_findRatios_43 (by decide) ?_
    refine lv_lconst (v := 1) C0.1 C0.2.1 dX7_findRatios_44 (by decide) ?_
    obtain ⟨i16, h⟩ := h
    refine c_V C0 hO hS (mX4_put h) i16 (by decide) rfl rfl tb_878 tb_319 tb_320 tb_78 tb_321 hd_X4_put rfl ⟨⟨by decide, by decide⟩, by show _ + 0 ≤ 3; omega, by show _ + 0 ≤ 18; omega⟩ hl.1 rfl (Nat.le_of_ble_eq_true rfl) dX7_findRatios_45 (kV (fun S15 H locs h hO hS => ?_))
    change W _ _ _ _ _ _ _ _ _ _ _ _ (_ + 0) (_ + 0) _ _
    refine lv_iconst (v := 0) C0.1 C0.2.1 dX7_findRatios_48 (by decide) ?_
    refine lv_istore_n C0.1 C0.2.1 dX7_findRatios_49 rfl hl (by decide) rfl (fun ls hl => ?_)
    obtain ⟨n9, h⟩ := h
    exact lX7_findRatios_b50 C0 Y hl9 hx9 n9 _ _ _ _ _ _ _ h hO hS (lv_sub hl [1, 2, 3, 0] rfl) (by omega) (by omega)
  · have h := h.2 c9
    exact t_W (text := "the other shaft is no input") (names := xnm) C0 hl9 Y.2 hx9 hO hS xf_UnsupportedOperationException xnm_ok tb_602 tb_90 (by decide +kernel) xat_100 xgd_10000096 hl.1 h dX7_findRatios_20 dX7_findRatios_23 dX7_findRatios_24 dX7_findRatios_27 dX7_findRatios_30 (Nat.le_of_ble_eq_true rfl) (Nat.le_of_ble_eq_true rfl) (by show _ ≤ 3; omega) (by show _ ≤ 18; omega) (by show _ ≤ 3; omega) (by show _ ≤ 18; omega)
def wX7_findRatios (S : Hp) (x0 : Nat) (x1 : Int32) (x2 : Int32) (Φ : Hp → Prop) (Ψ : Hp → String → Prop) : Prop := wX7_findRatios_b0 x0 x1 x2 Φ Ψ S
set_option maxRecDepth 100000 in
theorem mX7_findRatios {l : Launch} {G : Gw} (hl9 : l.stackTraces = false) {S : Hp} {x0 : Nat} {x1 : Int32} {x2 : Int32} {Φ : Hp → Prop} {Ψ : Hp → String → Prop} (h : wX7_findRatios S x0 x1 x2 Φ Ψ) : gT l yX7_findRatios cX7_findRatios 4 none rm_X7_findRatios [.ref x0, .int x1, .int x2] G S (PV Φ) Ψ := by
  unfold gT
  refine vx_ofW (cc := cX7_findRatios) (maxL := 4) (ret := none) (by decide) rfl ?_
  intro p e s m args below meth c s₁ B hml hx9 hv
  obtain ⟨rfl, hw⟩ := hv
  obtain ⟨C0, Y, hO⟩ := mx_of B hml hw
  have hS : va_S (Ab G.b) s.heap s.heap [] := va_S.rf
  have hl := lv_entry ([.ref x0, .int x1, .int x2]) (n := 4) (Nat.le_of_ble_eq_true rfl)
  rw [lg_entry_eq]
  generalize (lg_sl ([.ref x0, .int x1, .int x2]) ++ List.replicate (4 - (lg_sl ([.ref x0, .int x1, .int x2])).length) Slot.unset).toArray = ls at hl ⊢
  have hl : lv_has ls 4 [(0, .ref x0), (1, .int x1), (2, .int x2)] := hl
  exact bX7_findRatios_b0 C0 Y hl9 hx9 S _ _ _ 0 0 h hO hS hl (by decide) (by decide)

def rm_X7_ratioOver : Room := { frames := 8, cells := 3, slots := 18, locals := 134 }
def wX7_ratioOver_b0 (x0 : Nat) (x1 : Int32) (x2 : Int32) (Φ : Hp → Int64 → Prop) (Ψ : Hp → String → Prop) (S : Hp) : Prop := isA S x0 7 ∧ wX7_findRatios S x0 x1 x2 (fun S1 => isA S1 x0 7 ∧ ∃ a4, S1.FR 456 x0 = some a4 ∧ isA S1 a4 4 ∧ wX4_overAt S1 a4 x1 (fun S5 r6 => Φ S5 r6)) Ψ
set_option maxHeartbeats 4000000 in
set_option maxRecDepth 100000 in
theorem bX7_ratioOver_b0 {p : Program} {l : Launch} {e : Env} {s : State} {m : MethodId} {args : Array Value} {below : List Frame} {meth : Method} {c : Code} {G : Gw} {x0 : Nat} {x1 : Int32} {x2 : Int32} {Φ : Hp → Int64 → Prop} {Ψ : Hp → String → Prop} (C0 : Mx p s m c cX7_ratioOver 3 args yX7_ratioOver.cls G) (Y : My meth (some .long)) (hl9 : l.stackTraces = false) (hx9 : ∀ x ∈ c.exceptionTable.toList, False)  : ∀ (S : Hp) (H : Heap) (locs : List Loc) (ls : Array Slot) (cells slots : Nat), wX7_ratioOver_b0 x0 x1 x2 Φ Ψ S → Ok G S H → va_S (Ab G.b) s.heap H locs → lv_has ls 3 [(0, .ref x0), (1, .int x1), (2, .int x2)] → cells + (3) ≤ 3 → slots + (18) ≤ 18 → W p l e rm_X7_ratioOver s m args below meth c H locs cells slots (vx_MQ below (gQ G (PJ Φ)) (gX G Ψ) args s rm_X7_ratioOver.cells rm_X7_ratioOver.slots (Ab G.b)) (F0 m 0 ls []) := by
  intro S H locs ls cells slots h hO hS hl hcc hss
  unfold wX7_ratioOver_b0 at h
  refine lv_aload_n C0.1 C0.2.1 dX7_ratioOver_0 rfl (lv_at hl 0 rfl) ?_
  refine lv_iload_n C0.1 C0.2.1 dX7_ratioOver_1 rfl (lv_at hl 1 rfl) ?_
  refine lv_iload_n C0.1 C0.2.1 dX7_ratioOver_2 rfl (lv_at hl 2 rfl) ?_
  obtain ⟨i2, h⟩ := h
  refine x_V C0 Y.2 hx9 hO hS (mX7_findRatios hl9 h) i2 (by decide) rfl rfl tb_872 tb_874 tb_26 tb_74 tb_875 hd_X7_findRatios rfl ⟨⟨by decide, by decide⟩, by show _ + 3 ≤ 3; omega, by show _ + 18 ≤ 18; omega⟩ hl.1 rfl (Nat.le_of_ble_eq_true rfl) dX7_ratioOver_3 (by show _ + 3 ≤ 3; omega) (by show _ + 18 ≤ 18; omega) (kV (fun S1 H locs h hO hS => ?_))
  change W _ _ _ _ _ _ _ _ _ _ _ _ (_ + 3) (_ + 18) _ _
  refine lv_aload_n C0.1 C0.2.1 dX7_ratioOver_6 rfl (lv_at hl 0 rfl) ?_
  obtain ⟨i3, h⟩ := h
  obtain ⟨a4, ea4, h⟩ := h
  refine g7_8 C0 hO i3 ea4 tb_194 dX7_ratioOver_7 ?_
  refine lv_iload_n C0.1 C0.2.1 dX7_ratioOver_10 rfl (lv_at hl 1 rfl) ?_
  obtain ⟨i7, h⟩ := h
  refine c_V C0 hO hS (mX4_overAt h) i7 (by decide) rfl rfl tb_249 tb_250 tb_251 tb_78 tb_252 hd_X4_overAt rfl ⟨⟨by decide, by decide⟩, by show _ + 0 ≤ 3; omega, by show _ + 0 ≤ 18; omega⟩ hl.1 rfl (Nat.le_of_ble_eq_true rfl) dX7_ratioOver_11 (kJ (fun r6 S5 H locs h hO hS => ?_))
  change W _ _ _ _ _ _ _ _ _ _ _ _ (_ + 0) (_ + 0) _ _
  refine vx_ret ?_
  exact e_J C0 Y hO hS h (by show _ ≤ 3; omega) (by show _ ≤ 18; omega) dX7_ratioOver_14
def wX7_ratioOver (S : Hp) (x0 : Nat) (x1 : Int32) (x2 : Int32) (Φ : Hp → Int64 → Prop) (Ψ : Hp → String → Prop) : Prop := wX7_ratioOver_b0 x0 x1 x2 Φ Ψ S
set_option maxRecDepth 100000 in
theorem mX7_ratioOver {l : Launch} {G : Gw} (hl9 : l.stackTraces = false) {S : Hp} {x0 : Nat} {x1 : Int32} {x2 : Int32} {Φ : Hp → Int64 → Prop} {Ψ : Hp → String → Prop} (h : wX7_ratioOver S x0 x1 x2 Φ Ψ) : gT l yX7_ratioOver cX7_ratioOver 3 (some .long) rm_X7_ratioOver [.ref x0, .int x1, .int x2] G S (PJ Φ) Ψ := by
  unfold gT
  refine vx_ofW (cc := cX7_ratioOver) (maxL := 3) (ret := (some .long)) (by decide) rfl ?_
  intro p e s m args below meth c s₁ B hml hx9 hv
  obtain ⟨rfl, hw⟩ := hv
  obtain ⟨C0, Y, hO⟩ := mx_of B hml hw
  have hS : va_S (Ab G.b) s.heap s.heap [] := va_S.rf
  have hl := lv_entry ([.ref x0, .int x1, .int x2]) (n := 3) (Nat.le_of_ble_eq_true rfl)
  rw [lg_entry_eq]
  generalize (lg_sl ([.ref x0, .int x1, .int x2]) ++ List.replicate (3 - (lg_sl ([.ref x0, .int x1, .int x2])).length) Slot.unset).toArray = ls at hl ⊢
  have hl : lv_has ls 3 [(0, .ref x0), (1, .int x1), (2, .int x2)] := hl
  exact bX7_ratioOver_b0 C0 Y hl9 hx9 S _ _ _ 0 0 h hO hS hl (by decide) (by decide)

def rm_X7_ratioUnder : Room := { frames := 8, cells := 3, slots := 18, locals := 134 }
def wX7_ratioUnder_b0 (x0 : Nat) (x1 : Int32) (x2 : Int32) (Φ : Hp → Int64 → Prop) (Ψ : Hp → String → Prop) (S : Hp) : Prop := isA S x0 7 ∧ wX7_findRatios S x0 x1 x2 (fun S1 => isA S1 x0 7 ∧ ∃ a4, S1.FR 456 x0 = some a4 ∧ isA S1 a4 4 ∧ wX4_underAt S1 a4 x1 (fun S5 r6 => Φ S5 r6)) Ψ
set_option maxHeartbeats 4000000 in
set_option maxRecDepth 100000 in
theorem bX7_ratioUnder_b0 {p : Program} {l : Launch} {e : Env} {s : State} {m : MethodId} {args : Array Value} {below : List Frame} {meth : Method} {c : Code} {G : Gw} {x0 : Nat} {x1 : Int32} {x2 : Int32} {Φ : Hp → Int64 → Prop} {Ψ : Hp → String → Prop} (C0 : Mx p s m c cX7_ratioUnder 3 args yX7_ratioUnder.cls G) (Y : My meth (some .long)) (hl9 : l.stackTraces = false) (hx9 : ∀ x ∈ c.exceptionTable.toList, False)  : ∀ (S : Hp) (H : Heap) (locs : List Loc) (ls : Array Slot) (cells slots : Nat), wX7_ratioUnder_b0 x0 x1 x2 Φ Ψ S → Ok G S H → va_S (Ab G.b) s.heap H locs → lv_has ls 3 [(0, .ref x0), (1, .int x1), (2, .int x2)] → cells + (3) ≤ 3 → slots + (18) ≤ 18 → W p l e rm_X7_ratioUnder s m args below meth c H locs cells slots (vx_MQ below (gQ G (PJ Φ)) (gX G Ψ) args s rm_X7_ratioUnder.cells rm_X7_ratioUnder.slots (Ab G.b)) (F0 m 0 ls []) := by
  intro S H locs ls cells slots h hO hS hl hcc hss
  unfold wX7_ratioUnder_b0 at h
  refine lv_aload_n C0.1 C0.2.1 dX7_ratioUnder_0 rfl (lv_at hl 0 rfl) ?_
  refine lv_iload_n C0.1 C0.2.1 dX7_ratioUnder_1 rfl (lv_at hl 1 rfl) ?_
  refine lv_iload_n C0.1 C0.2.1 dX7_ratioUnder_2 rfl (lv_at hl 2 rfl) ?_
  obtain ⟨i2, h⟩ := h
  refine x_V C0 Y.2 hx9 hO hS (mX7_findRatios hl9 h) i2 (by decide) rfl rfl tb_872 tb_874 tb_26 tb_74 tb_875 hd_X7_findRatios rfl ⟨⟨by decide, by decide⟩, by show _ + 3 ≤ 3; omega, by show _ + 18 ≤ 18; omega⟩ hl.1 rfl (Nat.le_of_ble_eq_true rfl) dX7_ratioUnder_3 (by show _ + 3 ≤ 3; omega) (by show _ + 18 ≤ 18; omega) (kV (fun S1 H locs h hO hS => ?_))
  change W _ _ _ _ _ _ _ _ _ _ _ _ (_ + 3) (_ + 18) _ _
  refine lv_aload_n C0.1 C0.2.1 dX7_ratioUnder_6 rfl (lv_at hl 0 rfl) ?_
  obtain ⟨i3, h⟩ := h
  obtain ⟨a4, ea4, h⟩ := h
  refine g7_8 C0 hO i3 ea4 tb_194 dX7_ratioUnder_7 ?_
  refine lv_iload_n C0.1 C0.2.1 dX7_ratioUnder_10 rfl (lv_at hl 1 rfl) ?_
  obtain ⟨i7, h⟩ := h
  refine c_V C0 hO hS (mX4_underAt h) i7 (by decide) rfl rfl tb_257 tb_258 tb_259 tb_78 tb_260 hd_X4_underAt rfl ⟨⟨by decide, by decide⟩, by show _ + 0 ≤ 3; omega, by show _ + 0 ≤ 18; omega⟩ hl.1 rfl (Nat.le_of_ble_eq_true rfl) dX7_ratioUnder_11 (kJ (fun r6 S5 H locs h hO hS => ?_))
  change W _ _ _ _ _ _ _ _ _ _ _ _ (_ + 0) (_ + 0) _ _
  refine vx_ret ?_
  exact e_J C0 Y hO hS h (by show _ ≤ 3; omega) (by show _ ≤ 18; omega) dX7_ratioUnder_14
def wX7_ratioUnder (S : Hp) (x0 : Nat) (x1 : Int32) (x2 : Int32) (Φ : Hp → Int64 → Prop) (Ψ : Hp → String → Prop) : Prop := wX7_ratioUnder_b0 x0 x1 x2 Φ Ψ S
set_option maxRecDepth 100000 in
theorem mX7_ratioUnder {l : Launch} {G : Gw} (hl9 : l.stackTraces = false) {S : Hp} {x0 : Nat} {x1 : Int32} {x2 : Int32} {Φ : Hp → Int64 → Prop} {Ψ : Hp → String → Prop} (h : wX7_ratioUnder S x0 x1 x2 Φ Ψ) : gT l yX7_ratioUnder cX7_ratioUnder 3 (some .long) rm_X7_ratioUnder [.ref x0, .int x1, .int x2] G S (PJ Φ) Ψ := by
  unfold gT
  refine vx_ofW (cc := cX7_ratioUnder) (maxL := 3) (ret := (some .long)) (by decide) rfl ?_
  intro p e s m args below meth c s₁ B hml hx9 hv
  obtain ⟨rfl, hw⟩ := hv
  obtain ⟨C0, Y, hO⟩ := mx_of B hml hw
  have hS : va_S (Ab G.b) s.heap s.heap [] := va_S.rf
  have hl := lv_entry ([.ref x0, .int x1, .int x2]) (n := 3) (Nat.le_of_ble_eq_true rfl)
  rw [lg_entry_eq]
  generalize (lg_sl ([.ref x0, .int x1, .int x2]) ++ List.replicate (3 - (lg_sl ([.ref x0, .int x1, .int x2])).length) Slot.unset).toArray = ls at hl ⊢
  have hl : lv_has ls 3 [(0, .ref x0), (1, .int x1), (2, .int x2)] := hl
  exact bX7_ratioUnder_b0 C0 Y hl9 hx9 S _ _ _ 0 0 h hO hS hl (by decide) (by decide)

def rm_X7_driver : Room := { frames := 7, cells := 2, slots := 12, locals := 111 }
def wX7_driver_b0 (x0 : Nat) (x1 : Int32) (Φ : Hp → Int32 → Prop) (Ψ : Hp → String → Prop) (S : Hp) : Prop := isA S x0 7 ∧ wX7_checkShaft S x0 x1 (fun S1 => isA S1 x0 7 ∧ ∃ a4, S1.FR 452 x0 = some a4 ∧ isA S1 a4 21 ∧ vp_in x1 (S1.N a4) ∧ ((¬ (S1.AI a4 x1.toNatClampNeg) = (-1) → ∃ a8, S1.FR 452 x0 = some a8 ∧ isA S1 a8 21 ∧ vp_in x1 (S1.N a8) ∧ Φ S1 (S1.AI a8 x1.toNatClampNeg)) ∧ ((S1.AI a4 x1.toNatClampNeg) = (-1) → Ψ S1 "java/util/NoSuchElementException"))) Ψ
set_option maxHeartbeats 4000000 in
set_option maxRecDepth 100000 in
theorem bX7_driver_b0 {p : Program} {l : Launch} {e : Env} {s : State} {m : MethodId} {args : Array Value} {below : List Frame} {meth : Method} {c : Code} {G : Gw} {x0 : Nat} {x1 : Int32} {Φ : Hp → Int32 → Prop} {Ψ : Hp → String → Prop} (C0 : Mx p s m c cX7_driver 2 args yX7_driver.cls G) (Y : My meth (some .int)) (hl9 : l.stackTraces = false) (hx9 : ∀ x ∈ c.exceptionTable.toList, False)  : ∀ (S : Hp) (H : Heap) (locs : List Loc) (ls : Array Slot) (cells slots : Nat), wX7_driver_b0 x0 x1 Φ Ψ S → Ok G S H → va_S (Ab G.b) s.heap H locs → lv_has ls 2 [(0, .ref x0), (1, .int x1)] → cells + (2) ≤ 2 → slots + (12) ≤ 12 → W p l e rm_X7_driver s m args below meth c H locs cells slots (vx_MQ below (gQ G (PI Φ)) (gX G Ψ) args s rm_X7_driver.cells rm_X7_driver.slots (Ab G.b)) (F0 m 0 ls []) := by
  intro S H locs ls cells slots h hO hS hl hcc hss
  unfold wX7_driver_b0 at h
  refine lv_aload_n C0.1 C0.2.1 dX7_driver_0 rfl (lv_at hl 0 rfl) ?_
  refine lv_iload_n C0.1 C0.2.1 dX7_driver_1 rfl (lv_at hl 1 rfl) ?_
  obtain ⟨i2, h⟩ := h
  refine x_V C0 Y.2 hx9 hO hS (mX7_checkShaft hl9 h) i2 (by decide) rfl rfl tb_563 tb_565 tb_12 tb_74 tb_566 hd_X7_checkShaft rfl ⟨⟨by decide, by decide⟩, by show _ + 1 ≤ 2; omega, by show _ + 6 ≤ 12; omega⟩ hl.1 rfl (Nat.le_of_ble_eq_true rfl) dX7_driver_2 (by show _ + 1 ≤ 2; omega) (by show _ + 6 ≤ 12; omega) (kV (fun S1 H locs h hO hS => ?_))
  change W _ _ _ _ _ _ _ _ _ _ _ _ (_ + 1) (_ + 6) _ _
  refine lv_aload_n C0.1 C0.2.1 dX7_driver_5 rfl (lv_at hl 0 rfl) ?_
  obtain ⟨i3, h⟩ := h
  obtain ⟨a4, ea4, h⟩ := h
  refine g7_4 C0 hO i3 ea4 tb_190 dX7_driver_6 ?_
  refine lv_iload_n C0.1 C0.2.1 dX7_driver_9 rfl (lv_at hl 1 rfl) ?_
  obtain ⟨i5, h⟩ := h
  obtain ⟨e6, h⟩ := h
  refine r_iald C0 hO i5 e6 dX7_driver_10 ?_
  refine lv_iconst (v := (-1)) C0.1 C0.2.1 dX7_driver_11 (by decide) ?_
  refine lv_icmp_ne (tgt := 25) C0.1 C0.2.1 dX7_driver_12 (by decide) (fun c7 => ?_) (fun c7 => ?_)
  · have h := h.1 c7
    refine lv_aload_n C0.1 C0.2.1 dX7_driver_25 rfl (lv_at hl 0 rfl) ?_
    obtain ⟨a8, ea8, h⟩ := h
    refine g7_4 C0 hO i3 ea8 tb_190 dX7_driver_26 ?_
    refine lv_iload_n C0.1 C0.2.1 dX7_driver_29 rfl (lv_at hl 1 rfl) ?_
    obtain ⟨i9, h⟩ := h
    obtain ⟨e10, h⟩ := h
    refine r_iald C0 hO i9 e10 dX7_driver_30 ?_
    refine vx_ret ?_
    exact e_I C0 Y hO hS h (by show _ ≤ 2; omega) (by show _ ≤ 12; omega) dX7_driver_31
  · have h := h.2 c7
    exact t_NS (text := "no link drives the shaft") C0 hl9 Y.2 hx9 hO hS tb_905 tb_98 (by decide +kernel) hl.1 h dX7_driver_15 dX7_driver_18 dX7_driver_19 dX7_driver_21 dX7_driver_24 (Nat.le_of_ble_eq_true rfl) (Nat.le_of_ble_eq_true rfl) (by show _ ≤ 2; omega) (by show _ ≤ 12; omega) (by show _ ≤ 2; omega) (by show _ ≤ 12; omega)
def wX7_driver (S : Hp) (x0 : Nat) (x1 : Int32) (Φ : Hp → Int32 → Prop) (Ψ : Hp → String → Prop) : Prop := wX7_driver_b0 x0 x1 Φ Ψ S
set_option maxRecDepth 100000 in
theorem mX7_driver {l : Launch} {G : Gw} (hl9 : l.stackTraces = false) {S : Hp} {x0 : Nat} {x1 : Int32} {Φ : Hp → Int32 → Prop} {Ψ : Hp → String → Prop} (h : wX7_driver S x0 x1 Φ Ψ) : gT l yX7_driver cX7_driver 2 (some .int) rm_X7_driver [.ref x0, .int x1] G S (PI Φ) Ψ := by
  unfold gT
  refine vx_ofW (cc := cX7_driver) (maxL := 2) (ret := (some .int)) (by decide) rfl ?_
  intro p e s m args below meth c s₁ B hml hx9 hv
  obtain ⟨rfl, hw⟩ := hv
  obtain ⟨C0, Y, hO⟩ := mx_of B hml hw
  have hS : va_S (Ab G.b) s.heap s.heap [] := va_S.rf
  have hl := lv_entry ([.ref x0, .int x1]) (n := 2) (Nat.le_of_ble_eq_true rfl)
  rw [lg_entry_eq]
  generalize (lg_sl ([.ref x0, .int x1]) ++ List.replicate (2 - (lg_sl ([.ref x0, .int x1])).length) Slot.unset).toArray = ls at hl ⊢
  have hl : lv_has ls 2 [(0, .ref x0), (1, .int x1)] := hl
  exact bX7_driver_b0 C0 Y hl9 hx9 S _ _ _ 0 0 h hO hS hl (by decide) (by decide)

def rm_X7_countDriven : Room := { frames := 0, cells := 0, slots := 0, locals := 0 }
def wX7_countDriven_b25 (x0 : Nat) (Φ : Hp → Int32 → Prop) (k4 : Hp → Int32 → Int32 → Prop) (S : Hp) (v1 : Int32) (v2 : Int32) : Prop := k4 S v1 (v2 + 1)
set_option maxHeartbeats 4000000 in
set_option maxRecDepth 100000 in
theorem bX7_countDriven_b25 {p : Program} {l : Launch} {e : Env} {s : State} {m : MethodId} {args : Array Value} {below : List Frame} {meth : Method} {c : Code} {G : Gw} {x0 : Nat} {Φ : Hp → Int32 → Prop} (C0 : Mx p s m c cX7_countDriven 3 args yX7_countDriven.cls G) (Y : My meth (some .int)) {k4 : Hp → Int32 → Int32 → Prop} (hk4 : ∀ (S : Hp) (v1 : Int32) (v2 : Int32) (H : Heap) (locs : List Loc) (ls : Array Slot), k4 S v1 v2 → Ok G S H → va_S (Ab G.b) s.heap H locs → lv_has ls 3 [(0, .ref x0), (1, .int v1), (2, .int v2)] → W p l e rm_X7_countDriven s m args below meth c H locs 0 0 (MQ below (gQ G (PI Φ)) args s rm_X7_countDriven.cells rm_X7_countDriven.slots (Ab G.b)) (F0 m 4 ls [])) : ∀ (S : Hp) (v1 : Int32) (v2 : Int32) (H : Heap) (locs : List Loc) (ls : Array Slot), wX7_countDriven_b25 x0 Φ k4 S v1 v2 → Ok G S H → va_S (Ab G.b) s.heap H locs → lv_has ls 3 [(0, .ref x0), (1, .int v1), (2, .int v2)] → W p l e rm_X7_countDriven s m args below meth c H locs 0 0 (MQ below (gQ G (PI Φ)) args s rm_X7_countDriven.cells rm_X7_countDriven.slots (Ab G.b)) (F0 m 25 ls []) := by
  intro S v1 v2 H locs ls h hO hS hl
  unfold wX7_countDriven_b25 at h
  refine lv_iinc (v := _ + 1) C0.1 C0.2.1 dX7_countDriven_25 hl (k := 2) rfl rfl (by decide) rfl (fun ls hl => ?_)
  refine lv_goto (tgt := 4) C0.1 C0.2.1 dX7_countDriven_28 (by decide) ?_
  exact hk4 _ _ _ _ _ _ h hO hS (lv_sub hl [1, 2, 0] rfl)
def wX7_countDriven_b4 (x0 : Nat) (Φ : Hp → Int32 → Prop) (k4 : Hp → Int32 → Int32 → Prop) (S : Hp) (v1 : Int32) (v2 : Int32) : Prop := isA S x0 7 ∧ (((S.FI 461 x0) ≤ v2 → Φ S v1) ∧ (¬ ((S.FI 461 x0) ≤ v2) → ∃ a3, S.FR 452 x0 = some a3 ∧ isA S a3 21 ∧ vp_in v2 (S.N a3) ∧ (((S.AI a3 v2.toNatClampNeg) = (-1) → wX7_countDriven_b25 x0 Φ k4 S v1 v2) ∧ (¬ ((S.AI a3 v2.toNatClampNeg) = (-1)) → wX7_countDriven_b25 x0 Φ k4 S (v1 + 1) v2))))
set_option maxHeartbeats 4000000 in
set_option maxRecDepth 100000 in
theorem bX7_countDriven_b4 {p : Program} {l : Launch} {e : Env} {s : State} {m : MethodId} {args : Array Value} {below : List Frame} {meth : Method} {c : Code} {G : Gw} {x0 : Nat} {Φ : Hp → Int32 → Prop} (C0 : Mx p s m c cX7_countDriven 3 args yX7_countDriven.cls G) (Y : My meth (some .int)) {k4 : Hp → Int32 → Int32 → Prop} (hk4 : ∀ (S : Hp) (v1 : Int32) (v2 : Int32) (H : Heap) (locs : List Loc) (ls : Array Slot), k4 S v1 v2 → Ok G S H → va_S (Ab G.b) s.heap H locs → lv_has ls 3 [(0, .ref x0), (1, .int v1), (2, .int v2)] → W p l e rm_X7_countDriven s m args below meth c H locs 0 0 (MQ below (gQ G (PI Φ)) args s rm_X7_countDriven.cells rm_X7_countDriven.slots (Ab G.b)) (F0 m 4 ls [])) : ∀ (S : Hp) (v1 : Int32) (v2 : Int32) (H : Heap) (locs : List Loc) (ls : Array Slot), wX7_countDriven_b4 x0 Φ k4 S v1 v2 → Ok G S H → va_S (Ab G.b) s.heap H locs → lv_has ls 3 [(0, .ref x0), (1, .int v1), (2, .int v2)] → W p l e rm_X7_countDriven s m args below meth c H locs 0 0 (MQ below (gQ G (PI Φ)) args s rm_X7_countDriven.cells rm_X7_countDriven.slots (Ab G.b)) (F0 m 4 ls []) := by
  intro S v1 v2 H locs ls h hO hS hl
  unfold wX7_countDriven_b4 at h
  refine lv_iload_n C0.1 C0.2.1 dX7_countDriven_4 rfl (lv_at hl 2 rfl) ?_
  refine lv_aload_n C0.1 C0.2.1 dX7_countDriven_5 rfl (lv_at hl 0 rfl) ?_
  obtain ⟨i1, h⟩ := h
  refine g7_13 C0 hO i1 tb_199 dX7_countDriven_6 ?_
  refine lv_icmp_ge (tgt := 31) C0.1 C0.2.1 dX7_countDriven_9 (by decide) (fun c2 => ?_) (fun c2 => ?_)
  · have h := h.1 c2
    refine lv_iload_n C0.1 C0.2.1 dX7_countDriven_31 rfl (lv_at hl 1 rfl) ?_
    exact e_I C0 Y hO hS h (Nat.le_refl _) (Nat.le_refl _) dX7_countDriven_32
  · have h := h.2 c2
    refine lv_aload_n C0.1 C0.2.1 dX7_countDriven_12 rfl (lv_at hl 0 rfl) ?_
    obtain ⟨a3, ea3, h⟩ := h
    refine g7_4 C0 hO i1 ea3 tb_190 dX7_countDriven_13 ?_
    refine lv_iload_n C0.1 C0.2.1 dX7_countDriven_16 rfl (lv_at hl 2 rfl) ?_
    obtain ⟨i4, h⟩ := h
    obtain ⟨e5, h⟩ := h
    refine r_iald C0 hO i4 e5 dX7_countDriven_17 ?_
    refine lv_iconst (v := (-1)) C0.1 C0.2.1 dX7_countDriven_18 (by decide) ?_
    refine lv_icmp_eq (tgt := 25) C0.1 C0.2.1 dX7_countDriven_19 (by decide) (fun c6 => ?_) (fun c6 => ?_)
    · have h := h.1 c6
      exact bX7_countDriven_b25 C0 Y hk4 _ _ _ _ _ _ h hO hS (lv_sub hl [0, 1, 2] rfl)
    · have h := h.2 c6
      refine lv_iinc (v := _ + 1) C0.1 C0.2.1 dX7_countDriven_22 hl (k := 1) rfl rfl (by decide) rfl (fun ls hl => ?_)
      exact bX7_countDriven_b25 C0 Y hk4 _ _ _ _ _ _ h hO hS (lv_sub hl [1, 0, 2] rfl)
set_option maxHeartbeats 4000000 in
set_option maxRecDepth 100000 in
theorem lX7_countDriven_b4 {p : Program} {l : Launch} {e : Env} {s : State} {m : MethodId} {args : Array Value} {below : List Frame} {meth : Method} {c : Code} {G : Gw} {x0 : Nat} {Φ : Hp → Int32 → Prop} (C0 : Mx p s m c cX7_countDriven 3 args yX7_countDriven.cls G) (Y : My meth (some .int))  : ∀ n9 : Nat, ∀ (S : Hp) (v1 : Int32) (v2 : Int32) (H : Heap) (locs : List Loc) (ls : Array Slot), it3 (wX7_countDriven_b4 x0 Φ) n9 S v1 v2 → Ok G S H → va_S (Ab G.b) s.heap H locs → lv_has ls 3 [(0, .ref x0), (1, .int v1), (2, .int v2)] → W p l e rm_X7_countDriven s m args below meth c H locs 0 0 (MQ below (gQ G (PI Φ)) args s rm_X7_countDriven.cells rm_X7_countDriven.slots (Ab G.b)) (F0 m 4 ls []) := by
  intro n9
  induction n9 with
  | zero => intro S v1 v2 H locs ls h; exact (h : False).elim
  | succ n9 ih => intro S v1 v2 H locs ls h hO hS hl; exact bX7_countDriven_b4 C0 Y ih S v1 v2 H locs ls h hO hS hl
def wX7_countDriven_b0 (x0 : Nat) (Φ : Hp → Int32 → Prop) (S : Hp) : Prop := ∃ n, it3 (wX7_countDriven_b4 x0 Φ) n S 0 0
set_option maxHeartbeats 4000000 in
set_option maxRecDepth 100000 in
theorem bX7_countDriven_b0 {p : Program} {l : Launch} {e : Env} {s : State} {m : MethodId} {args : Array Value} {below : List Frame} {meth : Method} {c : Code} {G : Gw} {x0 : Nat} {Φ : Hp → Int32 → Prop} (C0 : Mx p s m c cX7_countDriven 3 args yX7_countDriven.cls G) (Y : My meth (some .int))  : ∀ (S : Hp) (H : Heap) (locs : List Loc) (ls : Array Slot), wX7_countDriven_b0 x0 Φ S → Ok G S H → va_S (Ab G.b) s.heap H locs → lv_has ls 3 [(0, .ref x0)] → W p l e rm_X7_countDriven s m args below meth c H locs 0 0 (MQ below (gQ G (PI Φ)) args s rm_X7_countDriven.cells rm_X7_countDriven.slots (Ab G.b)) (F0 m 0 ls []) := by
  intro S H locs ls h hO hS hl
  unfold wX7_countDriven_b0 at h
  refine lv_iconst (v := 0) C0.1 C0.2.1 dX7_countDriven_0 (by decide) ?_
  refine lv_istore_n C0.1 C0.2.1 dX7_countDriven_1 rfl hl (by decide) rfl (fun ls hl => ?_)
  refine lv_iconst (v := 0) C0.1 C0.2.1 dX7_countDriven_2 (by decide) ?_
  refine lv_istore_n C0.1 C0.2.1 dX7_countDriven_3 rfl hl (by decide) rfl (fun ls hl => ?_)
  obtain ⟨n9, h⟩ := h
  exact lX7_countDriven_b4 C0 Y n9 _ _ _ _ _ _ h hO hS (lv_sub hl [2, 1, 0] rfl)
def wX7_countDriven (S : Hp) (x0 : Nat) (Φ : Hp → Int32 → Prop) : Prop := wX7_countDriven_b0 x0 Φ S
set_option maxRecDepth 100000 in
theorem mX7_countDriven {l : Launch} {G : Gw} {S : Hp} {x0 : Nat} {Φ : Hp → Int32 → Prop} (h : wX7_countDriven S x0 Φ) : gM l yX7_countDriven cX7_countDriven 3 (some .int) rm_X7_countDriven [.ref x0] G S (PI Φ) := by
  unfold gM
  refine Met.ofW (cc := cX7_countDriven) (maxL := 3) (ret := (some .int)) (by decide) rfl ?_
  intro p e s m args below meth c s₁ B hml hv
  obtain ⟨rfl, hw⟩ := hv
  obtain ⟨C0, Y, hO⟩ := mx_of B hml hw
  have hS : va_S (Ab G.b) s.heap s.heap [] := va_S.rf
  have hl := lv_entry ([.ref x0]) (n := 3) (Nat.le_of_ble_eq_true rfl)
  rw [lg_entry_eq]
  generalize (lg_sl ([.ref x0]) ++ List.replicate (3 - (lg_sl ([.ref x0])).length) Slot.unset).toArray = ls at hl ⊢
  have hl : lv_has ls 3 [(0, .ref x0)] := hl
  exact bX7_countDriven_b0 C0 Y S _ _ _ h hO hS hl

def rm_X7_freedom : Room := { frames := 1, cells := 0, slots := 0, locals := 22 }
def wX7_freedom_b0 (x0 : Nat) (Φ : Hp → Int32 → Prop) (S : Hp) : Prop := isA S x0 7 ∧ wX7_countDriven S x0 (fun S2 r3 => Φ S2 ((S.FI 461 x0) - r3))
set_option maxHeartbeats 4000000 in
set_option maxRecDepth 100000 in
theorem bX7_freedom_b0 {p : Program} {l : Launch} {e : Env} {s : State} {m : MethodId} {args : Array Value} {below : List Frame} {meth : Method} {c : Code} {G : Gw} {x0 : Nat} {Φ : Hp → Int32 → Prop} (C0 : Mx p s m c cX7_freedom 1 args yX7_freedom.cls G) (Y : My meth (some .int))  : ∀ (S : Hp) (H : Heap) (locs : List Loc) (ls : Array Slot), wX7_freedom_b0 x0 Φ S → Ok G S H → va_S (Ab G.b) s.heap H locs → lv_has ls 1 [(0, .ref x0)] → W p l e rm_X7_freedom s m args below meth c H locs 0 0 (MQ below (gQ G (PI Φ)) args s rm_X7_freedom.cells rm_X7_freedom.slots (Ab G.b)) (F0 m 0 ls []) := by
  intro S H locs ls h hO hS hl
  unfold wX7_freedom_b0 at h
  refine lv_aload_n C0.1 C0.2.1 dX7_freedom_0 rfl (lv_at hl 0 rfl) ?_
  obtain ⟨i1, h⟩ := h
  refine g7_13 C0 hO i1 tb_199 dX7_freedom_1 ?_
  refine lv_aload_n C0.1 C0.2.1 dX7_freedom_4 rfl (lv_at hl 0 rfl) ?_
  refine c_V C0 hO hS (mX7_countDriven h) i1 (by decide) rfl rfl tb_239 tb_241 tb_0 tb_74 tb_242 hd_X7_countDriven rfl ⟨⟨by decide, by decide⟩, by decide, by decide⟩ hl.1 rfl (Nat.le_of_ble_eq_true rfl) dX7_freedom_5 (kI (fun r3 S2 H locs h hO hS => ?_))
  refine lv_isub C0.1 C0.2.1 dX7_freedom_8 ?_
  exact e_I C0 Y hO hS h (Nat.le_refl _) (Nat.le_refl _) dX7_freedom_9
def wX7_freedom (S : Hp) (x0 : Nat) (Φ : Hp → Int32 → Prop) : Prop := wX7_freedom_b0 x0 Φ S
set_option maxRecDepth 100000 in
theorem mX7_freedom {l : Launch} {G : Gw} {S : Hp} {x0 : Nat} {Φ : Hp → Int32 → Prop} (h : wX7_freedom S x0 Φ) : gM l yX7_freedom cX7_freedom 1 (some .int) rm_X7_freedom [.ref x0] G S (PI Φ) := by
  unfold gM
  refine Met.ofW (cc := cX7_freedom) (maxL := 1) (ret := (some .int)) (by decide) rfl ?_
  intro p e s m args below meth c s₁ B hml hv
  obtain ⟨rfl, hw⟩ := hv
  obtain ⟨C0, Y, hO⟩ := mx_of B hml hw
  have hS : va_S (Ab G.b) s.heap s.heap [] := va_S.rf
  have hl := lv_entry ([.ref x0]) (n := 1) (Nat.le_of_ble_eq_true rfl)
  rw [lg_entry_eq]
  generalize (lg_sl ([.ref x0]) ++ List.replicate (1 - (lg_sl ([.ref x0])).length) Slot.unset).toArray = ls at hl ⊢
  have hl : lv_has ls 1 [(0, .ref x0)] := hl
  exact bX7_freedom_b0 C0 Y S _ _ _ h hO hS hl

def rm_X7_wornOver : Room := { frames := 7, cells := 1, slots := 6, locals := 111 }
def wX7_wornOver_b0 (x0 : Nat) (x1 : Int32) (Φ : Hp → Int64 → Prop) (Ψ : Hp → String → Prop) (S : Hp) : Prop := isA S x0 7 ∧ wX7_checkLink S x0 x1 (fun S1 => isA S1 x0 7 ∧ ∃ a4, S1.FR 457 x0 = some a4 ∧ isA S1 a4 4 ∧ wX4_overAt S1 a4 x1 (fun S5 r6 => Φ S5 r6)) Ψ
set_option maxHeartbeats 4000000 in
set_option maxRecDepth 100000 in
theorem bX7_wornOver_b0 {p : Program} {l : Launch} {e : Env} {s : State} {m : MethodId} {args : Array Value} {below : List Frame} {meth : Method} {c : Code} {G : Gw} {x0 : Nat} {x1 : Int32} {Φ : Hp → Int64 → Prop} {Ψ : Hp → String → Prop} (C0 : Mx p s m c cX7_wornOver 2 args yX7_wornOver.cls G) (Y : My meth (some .long)) (hl9 : l.stackTraces = false) (hx9 : ∀ x ∈ c.exceptionTable.toList, False)  : ∀ (S : Hp) (H : Heap) (locs : List Loc) (ls : Array Slot) (cells slots : Nat), wX7_wornOver_b0 x0 x1 Φ Ψ S → Ok G S H → va_S (Ab G.b) s.heap H locs → lv_has ls 2 [(0, .ref x0), (1, .int x1)] → cells + (1) ≤ 1 → slots + (6) ≤ 6 → W p l e rm_X7_wornOver s m args below meth c H locs cells slots (vx_MQ below (gQ G (PJ Φ)) (gX G Ψ) args s rm_X7_wornOver.cells rm_X7_wornOver.slots (Ab G.b)) (F0 m 0 ls []) := by
  intro S H locs ls cells slots h hO hS hl hcc hss
  unfold wX7_wornOver_b0 at h
  refine lv_aload_n C0.1 C0.2.1 dX7_wornOver_0 rfl (lv_at hl 0 rfl) ?_
  refine lv_iload_n C0.1 C0.2.1 dX7_wornOver_1 rfl (lv_at hl 1 rfl) ?_
  obtain ⟨i2, h⟩ := h
  refine x_V C0 Y.2 hx9 hO hS (mX7_checkLink hl9 h) i2 (by decide) rfl rfl tb_774 tb_776 tb_19 tb_74 tb_777 hd_X7_checkLink rfl ⟨⟨by decide, by decide⟩, by show _ + 1 ≤ 1; omega, by show _ + 6 ≤ 6; omega⟩ hl.1 rfl (Nat.le_of_ble_eq_true rfl) dX7_wornOver_2 (by show _ + 1 ≤ 1; omega) (by show _ + 6 ≤ 6; omega) (kV (fun S1 H locs h hO hS => ?_))
  change W _ _ _ _ _ _ _ _ _ _ _ _ (_ + 1) (_ + 6) _ _
  refine lv_aload_n C0.1 C0.2.1 dX7_wornOver_5 rfl (lv_at hl 0 rfl) ?_
  obtain ⟨i3, h⟩ := h
  obtain ⟨a4, ea4, h⟩ := h
  refine g7_9 C0 hO i3 ea4 tb_195 dX7_wornOver_6 ?_
  refine lv_iload_n C0.1 C0.2.1 dX7_wornOver_9 rfl (lv_at hl 1 rfl) ?_
  obtain ⟨i7, h⟩ := h
  refine c_V C0 hO hS (mX4_overAt h) i7 (by decide) rfl rfl tb_249 tb_250 tb_251 tb_78 tb_252 hd_X4_overAt rfl ⟨⟨by decide, by decide⟩, by show _ + 0 ≤ 1; omega, by show _ + 0 ≤ 6; omega⟩ hl.1 rfl (Nat.le_of_ble_eq_true rfl) dX7_wornOver_10 (kJ (fun r6 S5 H locs h hO hS => ?_))
  change W _ _ _ _ _ _ _ _ _ _ _ _ (_ + 0) (_ + 0) _ _
  refine vx_ret ?_
  exact e_J C0 Y hO hS h (by show _ ≤ 1; omega) (by show _ ≤ 6; omega) dX7_wornOver_13
def wX7_wornOver (S : Hp) (x0 : Nat) (x1 : Int32) (Φ : Hp → Int64 → Prop) (Ψ : Hp → String → Prop) : Prop := wX7_wornOver_b0 x0 x1 Φ Ψ S
set_option maxRecDepth 100000 in
theorem mX7_wornOver {l : Launch} {G : Gw} (hl9 : l.stackTraces = false) {S : Hp} {x0 : Nat} {x1 : Int32} {Φ : Hp → Int64 → Prop} {Ψ : Hp → String → Prop} (h : wX7_wornOver S x0 x1 Φ Ψ) : gT l yX7_wornOver cX7_wornOver 2 (some .long) rm_X7_wornOver [.ref x0, .int x1] G S (PJ Φ) Ψ := by
  unfold gT
  refine vx_ofW (cc := cX7_wornOver) (maxL := 2) (ret := (some .long)) (by decide) rfl ?_
  intro p e s m args below meth c s₁ B hml hx9 hv
  obtain ⟨rfl, hw⟩ := hv
  obtain ⟨C0, Y, hO⟩ := mx_of B hml hw
  have hS : va_S (Ab G.b) s.heap s.heap [] := va_S.rf
  have hl := lv_entry ([.ref x0, .int x1]) (n := 2) (Nat.le_of_ble_eq_true rfl)
  rw [lg_entry_eq]
  generalize (lg_sl ([.ref x0, .int x1]) ++ List.replicate (2 - (lg_sl ([.ref x0, .int x1])).length) Slot.unset).toArray = ls at hl ⊢
  have hl : lv_has ls 2 [(0, .ref x0), (1, .int x1)] := hl
  exact bX7_wornOver_b0 C0 Y hl9 hx9 S _ _ _ 0 0 h hO hS hl (by decide) (by decide)

def rm_X7_wornUnder : Room := { frames := 7, cells := 1, slots := 6, locals := 111 }
def wX7_wornUnder_b0 (x0 : Nat) (x1 : Int32) (Φ : Hp → Int64 → Prop) (Ψ : Hp → String → Prop) (S : Hp) : Prop := isA S x0 7 ∧ wX7_checkLink S x0 x1 (fun S1 => isA S1 x0 7 ∧ ∃ a4, S1.FR 457 x0 = some a4 ∧ isA S1 a4 4 ∧ wX4_underAt S1 a4 x1 (fun S5 r6 => Φ S5 r6)) Ψ
set_option maxHeartbeats 4000000 in
set_option maxRecDepth 100000 in
theorem bX7_wornUnder_b0 {p : Program} {l : Launch} {e : Env} {s : State} {m : MethodId} {args : Array Value} {below : List Frame} {meth : Method} {c : Code} {G : Gw} {x0 : Nat} {x1 : Int32} {Φ : Hp → Int64 → Prop} {Ψ : Hp → String → Prop} (C0 : Mx p s m c cX7_wornUnder 2 args yX7_wornUnder.cls G) (Y : My meth (some .long)) (hl9 : l.stackTraces = false) (hx9 : ∀ x ∈ c.exceptionTable.toList, False)  : ∀ (S : Hp) (H : Heap) (locs : List Loc) (ls : Array Slot) (cells slots : Nat), wX7_wornUnder_b0 x0 x1 Φ Ψ S → Ok G S H → va_S (Ab G.b) s.heap H locs → lv_has ls 2 [(0, .ref x0), (1, .int x1)] → cells + (1) ≤ 1 → slots + (6) ≤ 6 → W p l e rm_X7_wornUnder s m args below meth c H locs cells slots (vx_MQ below (gQ G (PJ Φ)) (gX G Ψ) args s rm_X7_wornUnder.cells rm_X7_wornUnder.slots (Ab G.b)) (F0 m 0 ls []) := by
  intro S H locs ls cells slots h hO hS hl hcc hss
  unfold wX7_wornUnder_b0 at h
  refine lv_aload_n C0.1 C0.2.1 dX7_wornUnder_0 rfl (lv_at hl 0 rfl) ?_
  refine lv_iload_n C0.1 C0.2.1 dX7_wornUnder_1 rfl (lv_at hl 1 rfl) ?_
  obtain ⟨i2, h⟩ := h
  refine x_V C0 Y.2 hx9 hO hS (mX7_checkLink hl9 h) i2 (by decide) rfl rfl tb_774 tb_776 tb_19 tb_74 tb_777 hd_X7_checkLink rfl ⟨⟨by decide, by decide⟩, by show _ + 1 ≤ 1; omega, by show _ + 6 ≤ 6; omega⟩ hl.1 rfl (Nat.le_of_ble_eq_true rfl) dX7_wornUnder_2 (by show _ + 1 ≤ 1; omega) (by show _ + 6 ≤ 6; omega) (kV (fun S1 H locs h hO hS => ?_))
  change W _ _ _ _ _ _ _ _ _ _ _ _ (_ + 1) (_ + 6) _ _
  refine lv_aload_n C0.1 C0.2.1 dX7_wornUnder_5 rfl (lv_at hl 0 rfl) ?_
  obtain ⟨i3, h⟩ := h
  obtain ⟨a4, ea4, h⟩ := h
  refine g7_9 C0 hO i3 ea4 tb_195 dX7_wornUnder_6 ?_
  refine lv_iload_n C0.1 C0.2.1 dX7_wornUnder_9 rfl (lv_at hl 1 rfl) ?_
  obtain ⟨i7, h⟩ := h
  refine c_V C0 hO hS (mX4_underAt h) i7 (by decide) rfl rfl tb_257 tb_258 tb_259 tb_78 tb_260 hd_X4_underAt rfl ⟨⟨by decide, by decide⟩, by show _ + 0 ≤ 1; omega, by show _ + 0 ≤ 6; omega⟩ hl.1 rfl (Nat.le_of_ble_eq_true rfl) dX7_wornUnder_10 (kJ (fun r6 S5 H locs h hO hS => ?_))
  change W _ _ _ _ _ _ _ _ _ _ _ _ (_ + 0) (_ + 0) _ _
  refine vx_ret ?_
  exact e_J C0 Y hO hS h (by show _ ≤ 1; omega) (by show _ ≤ 6; omega) dX7_wornUnder_13
def wX7_wornUnder (S : Hp) (x0 : Nat) (x1 : Int32) (Φ : Hp → Int64 → Prop) (Ψ : Hp → String → Prop) : Prop := wX7_wornUnder_b0 x0 x1 Φ Ψ S
set_option maxRecDepth 100000 in
theorem mX7_wornUnder {l : Launch} {G : Gw} (hl9 : l.stackTraces = false) {S : Hp} {x0 : Nat} {x1 : Int32} {Φ : Hp → Int64 → Prop} {Ψ : Hp → String → Prop} (h : wX7_wornUnder S x0 x1 Φ Ψ) : gT l yX7_wornUnder cX7_wornUnder 2 (some .long) rm_X7_wornUnder [.ref x0, .int x1] G S (PJ Φ) Ψ := by
  unfold gT
  refine vx_ofW (cc := cX7_wornUnder) (maxL := 2) (ret := (some .long)) (by decide) rfl ?_
  intro p e s m args below meth c s₁ B hml hx9 hv
  obtain ⟨rfl, hw⟩ := hv
  obtain ⟨C0, Y, hO⟩ := mx_of B hml hw
  have hS : va_S (Ab G.b) s.heap s.heap [] := va_S.rf
  have hl := lv_entry ([.ref x0, .int x1]) (n := 2) (Nat.le_of_ble_eq_true rfl)
  rw [lg_entry_eq]
  generalize (lg_sl ([.ref x0, .int x1]) ++ List.replicate (2 - (lg_sl ([.ref x0, .int x1])).length) Slot.unset).toArray = ls at hl ⊢
  have hl : lv_has ls 2 [(0, .ref x0), (1, .int x1)] := hl
  exact bX7_wornUnder_b0 C0 Y hl9 hx9 S _ _ _ 0 0 h hO hS hl (by decide) (by decide)

def rm_X7_isBroken : Room := { frames := 8, cells := 1, slots := 6, locals := 132 }
def wX7_isBroken_b0 (x0 : Nat) (x1 : Int32) (Φ : Hp → Int32 → Prop) (Ψ : Hp → String → Prop) (S : Hp) : Prop := isA S x0 7 ∧ wX7_linkAt S x0 x1 (fun S1 r2 => ∃ a4, r2 = some a4 ∧ isA S1 a4 5 ∧ narrow .boolean (.int (S1.FI 328 a4)) = .int (S1.FI 328 a4) ∧ Φ S1 (S1.FI 328 a4)) Ψ
set_option maxHeartbeats 4000000 in
set_option maxRecDepth 100000 in
theorem bX7_isBroken_b0 {p : Program} {l : Launch} {e : Env} {s : State} {m : MethodId} {args : Array Value} {below : List Frame} {meth : Method} {c : Code} {G : Gw} {x0 : Nat} {x1 : Int32} {Φ : Hp → Int32 → Prop} {Ψ : Hp → String → Prop} (C0 : Mx p s m c cX7_isBroken 2 args yX7_isBroken.cls G) (Y : My meth (some .boolean)) (hl9 : l.stackTraces = false) (hx9 : ∀ x ∈ c.exceptionTable.toList, False)  : ∀ (S : Hp) (H : Heap) (locs : List Loc) (ls : Array Slot) (cells slots : Nat), wX7_isBroken_b0 x0 x1 Φ Ψ S → Ok G S H → va_S (Ab G.b) s.heap H locs → lv_has ls 2 [(0, .ref x0), (1, .int x1)] → cells + (1) ≤ 1 → slots + (6) ≤ 6 → W p l e rm_X7_isBroken s m args below meth c H locs cells slots (vx_MQ below (gQ G (PI Φ)) (gX G Ψ) args s rm_X7_isBroken.cells rm_X7_isBroken.slots (Ab G.b)) (F0 m 0 ls []) := by
  intro S H locs ls cells slots h hO hS hl hcc hss
  unfold wX7_isBroken_b0 at h
  refine lv_aload_n C0.1 C0.2.1 dX7_isBroken_0 rfl (lv_at hl 0 rfl) ?_
  refine lv_iload_n C0.1 C0.2.1 dX7_isBroken_1 rfl (lv_at hl 1 rfl) ?_
  obtain ⟨i3, h⟩ := h
  refine x_V C0 Y.2 hx9 hO hS (mX7_linkAt hl9 h) i3 (by decide) rfl rfl tb_770 tb_772 tb_18 tb_74 tb_773 hd_X7_linkAt rfl ⟨⟨by decide, by decide⟩, by show _ + 1 ≤ 1; omega, by show _ + 6 ≤ 6; omega⟩ hl.1 rfl (Nat.le_of_ble_eq_true rfl) dX7_isBroken_2 (by show _ + 1 ≤ 1; omega) (by show _ + 6 ≤ 6; omega) (kR (fun r2 S1 H locs h hO hS => ?_))
  change W _ _ _ _ _ _ _ _ _ _ _ _ (_ + 1) (_ + 6) _ _
  obtain ⟨a4, ea4, h⟩ := h
  subst ea4
  change W _ _ _ _ _ _ _ _ _ _ _ _ _ _ _ (F0 _ _ _ (.ref a4 :: _))
  obtain ⟨i5, h⟩ := h
  refine g5_8 C0 hO i5 tb_644 dX7_isBroken_5 ?_
  refine vx_ret ?_
  exact e_Z C0 Y hO hS h.1 h.2 (by show _ ≤ 1; omega) (by show _ ≤ 6; omega) dX7_isBroken_8
def wX7_isBroken (S : Hp) (x0 : Nat) (x1 : Int32) (Φ : Hp → Int32 → Prop) (Ψ : Hp → String → Prop) : Prop := wX7_isBroken_b0 x0 x1 Φ Ψ S
set_option maxRecDepth 100000 in
theorem mX7_isBroken {l : Launch} {G : Gw} (hl9 : l.stackTraces = false) {S : Hp} {x0 : Nat} {x1 : Int32} {Φ : Hp → Int32 → Prop} {Ψ : Hp → String → Prop} (h : wX7_isBroken S x0 x1 Φ Ψ) : gT l yX7_isBroken cX7_isBroken 2 (some .boolean) rm_X7_isBroken [.ref x0, .int x1] G S (PI Φ) Ψ := by
  unfold gT
  refine vx_ofW (cc := cX7_isBroken) (maxL := 2) (ret := (some .boolean)) (by decide) rfl ?_
  intro p e s m args below meth c s₁ B hml hx9 hv
  obtain ⟨rfl, hw⟩ := hv
  obtain ⟨C0, Y, hO⟩ := mx_of B hml hw
  have hS : va_S (Ab G.b) s.heap s.heap [] := va_S.rf
  have hl := lv_entry ([.ref x0, .int x1]) (n := 2) (Nat.le_of_ble_eq_true rfl)
  rw [lg_entry_eq]
  generalize (lg_sl ([.ref x0, .int x1]) ++ List.replicate (2 - (lg_sl ([.ref x0, .int x1])).length) Slot.unset).toArray = ls at hl ⊢
  have hl : lv_has ls 2 [(0, .ref x0), (1, .int x1)] := hl
  exact bX7_isBroken_b0 C0 Y hl9 hx9 S _ _ _ 0 0 h hO hS hl (by decide) (by decide)

def rm_X7_countBroken : Room := { frames := 3, cells := 0, slots := 0, locals := 64 }
def wX7_countBroken_b35 (x0 : Nat) (Φ : Hp → Int32 → Prop) (k4 : Hp → Int32 → Int32 → Prop) (S : Hp) (v1 : Int32) (v2 : Int32) : Prop := k4 S v1 (v2 + 1)
set_option maxHeartbeats 4000000 in
set_option maxRecDepth 100000 in
theorem bX7_countBroken_b35 {p : Program} {l : Launch} {e : Env} {s : State} {m : MethodId} {args : Array Value} {below : List Frame} {meth : Method} {c : Code} {G : Gw} {x0 : Nat} {Φ : Hp → Int32 → Prop} (C0 : Mx p s m c cX7_countBroken 3 args yX7_countBroken.cls G) (Y : My meth (some .int)) {k4 : Hp → Int32 → Int32 → Prop} (hk4 : ∀ (S : Hp) (v1 : Int32) (v2 : Int32) (H : Heap) (locs : List Loc) (ls : Array Slot), k4 S v1 v2 → Ok G S H → va_S (Ab G.b) s.heap H locs → lv_has ls 3 [(0, .ref x0), (1, .int v1), (2, .int v2)] → W p l e rm_X7_countBroken s m args below meth c H locs 0 0 (MQ below (gQ G (PI Φ)) args s rm_X7_countBroken.cells rm_X7_countBroken.slots (Ab G.b)) (F0 m 4 ls [])) : ∀ (S : Hp) (v1 : Int32) (v2 : Int32) (H : Heap) (locs : List Loc) (ls : Array Slot), wX7_countBroken_b35 x0 Φ k4 S v1 v2 → Ok G S H → va_S (Ab G.b) s.heap H locs → lv_has ls 3 [(0, .ref x0), (1, .int v1), (2, .int v2)] → W p l e rm_X7_countBroken s m args below meth c H locs 0 0 (MQ below (gQ G (PI Φ)) args s rm_X7_countBroken.cells rm_X7_countBroken.slots (Ab G.b)) (F0 m 35 ls []) := by
  intro S v1 v2 H locs ls h hO hS hl
  unfold wX7_countBroken_b35 at h
  refine lv_iinc (v := _ + 1) C0.1 C0.2.1 dX7_countBroken_35 hl (k := 2) rfl rfl (by decide) rfl (fun ls hl => ?_)
  refine lv_goto (tgt := 4) C0.1 C0.2.1 dX7_countBroken_38 (by decide) ?_
  exact hk4 _ _ _ _ _ _ h hO hS (lv_sub hl [1, 2, 0] rfl)
def wX7_countBroken_b4 (x0 : Nat) (Φ : Hp → Int32 → Prop) (k4 : Hp → Int32 → Int32 → Prop) (S : Hp) (v1 : Int32) (v2 : Int32) : Prop := isA S x0 7 ∧ ∃ a2, S.FR 448 x0 = some a2 ∧ isA S a2 9 ∧ wJx4a65c_size_8abf5 S a2 (fun S3 r4 => ((r4 ≤ v2 → Φ S3 v1) ∧ (¬ (r4 ≤ v2) → isA S3 x0 7 ∧ ∃ a8, S3.FR 448 x0 = some a8 ∧ isA S3 a8 9 ∧ wJx4a65c_get_915e3 S3 a8 v2 (fun S9 r10 => ∃ a12, r10 = some a12 ∧ isA S9 a12 5 ∧ (((S9.FI 328 a12) = 0 → wX7_countBroken_b35 x0 Φ k4 S9 v1 v2) ∧ (¬ ((S9.FI 328 a12) = 0) → wX7_countBroken_b35 x0 Φ k4 S9 (v1 + 1) v2))))))
set_option maxHeartbeats 4000000 in
set_option maxRecDepth 100000 in
theorem bX7_countBroken_b4 {p : Program} {l : Launch} {e : Env} {s : State} {m : MethodId} {args : Array Value} {below : List Frame} {meth : Method} {c : Code} {G : Gw} {x0 : Nat} {Φ : Hp → Int32 → Prop} (C0 : Mx p s m c cX7_countBroken 3 args yX7_countBroken.cls G) (Y : My meth (some .int)) {k4 : Hp → Int32 → Int32 → Prop} (hk4 : ∀ (S : Hp) (v1 : Int32) (v2 : Int32) (H : Heap) (locs : List Loc) (ls : Array Slot), k4 S v1 v2 → Ok G S H → va_S (Ab G.b) s.heap H locs → lv_has ls 3 [(0, .ref x0), (1, .int v1), (2, .int v2)] → W p l e rm_X7_countBroken s m args below meth c H locs 0 0 (MQ below (gQ G (PI Φ)) args s rm_X7_countBroken.cells rm_X7_countBroken.slots (Ab G.b)) (F0 m 4 ls [])) : ∀ (S : Hp) (v1 : Int32) (v2 : Int32) (H : Heap) (locs : List Loc) (ls : Array Slot), wX7_countBroken_b4 x0 Φ k4 S v1 v2 → Ok G S H → va_S (Ab G.b) s.heap H locs → lv_has ls 3 [(0, .ref x0), (1, .int v1), (2, .int v2)] → W p l e rm_X7_countBroken s m args below meth c H locs 0 0 (MQ below (gQ G (PI Φ)) args s rm_X7_countBroken.cells rm_X7_countBroken.slots (Ab G.b)) (F0 m 4 ls []) := by
  intro S v1 v2 H locs ls h hO hS hl
  unfold wX7_countBroken_b4 at h
  refine lv_iload_n C0.1 C0.2.1 dX7_countBroken_4 rfl (lv_at hl 2 rfl) ?_
  refine lv_aload_n C0.1 C0.2.1 dX7_countBroken_5 rfl (lv_at hl 0 rfl) ?_
  obtain ⟨i1, h⟩ := h
  obtain ⟨a2, ea2, h⟩ := h
  refine g7_0 C0 hO i1 ea2 tb_186 dX7_countBroken_6 ?_
  obtain ⟨i5, h⟩ := h
  refine c_V C0 hO hS (mJx4a65c_size_8abf5 h) i5 (by decide) rfl rfl tb_261 tb_262 tb_263 tb_77 tb_264 hd_Jx4a65c_size_8abf5 rfl ⟨⟨by decide, by decide⟩, by decide, by decide⟩ hl.1 rfl (Nat.le_of_ble_eq_true rfl) dX7_countBroken_9 (kI (fun r4 S3 H locs h hO hS => ?_))
  refine lv_icmp_ge (tgt := 41) C0.1 C0.2.1 dX7_countBroken_12 (by decide) (fun c6 => ?_) (fun c6 => ?_)
  · have h := h.1 c6
    refine lv_iload_n C0.1 C0.2.1 dX7_countBroken_41 rfl (lv_at hl 1 rfl) ?_
    exact e_I C0 Y hO hS h (Nat.le_refl _) (Nat.le_refl _) dX7_countBroken_42
  · have h := h.2 c6
    refine lv_aload_n C0.1 C0.2.1 dX7_countBroken_15 rfl (lv_at hl 0 rfl) ?_
    obtain ⟨i7, h⟩ := h
    obtain ⟨a8, ea8, h⟩ := h
    refine g7_0 C0 hO i7 ea8 tb_186 dX7_countBroken_16 ?_
    refine lv_iload_n C0.1 C0.2.1 dX7_countBroken_19 rfl (lv_at hl 2 rfl) ?_
    obtain ⟨i11, h⟩ := h
    refine c_V C0 hO hS (mJx4a65c_get_915e3 h) i11 (by decide) rfl rfl tb_265 tb_266 tb_267 tb_77 tb_268 hd_Jx4a65c_get_915e3 rfl ⟨⟨by decide, by decide⟩, by decide, by decide⟩ hl.1 rfl (Nat.le_of_ble_eq_true rfl) dX7_countBroken_20 (kR (fun r10 S9 H locs h hO hS => ?_))
    obtain ⟨a12, ea12, h⟩ := h
    subst ea12
    change W _ _ _ _ _ _ _ _ _ _ _ _ _ _ _ (F0 _ _ _ (.ref a12 :: _))
    obtain ⟨i13, h⟩ := h
    refine r_castO C0 hO i13 (by decide) rfl tb_329 dX7_countBroken_23 ?_
    refine g5_8 C0 hO i13 tb_644 dX7_countBroken_26 ?_
    refine lv_if_eq (tgt := 35) C0.1 C0.2.1 dX7_countBroken_29 (by decide) (fun c14 => ?_) (fun c14 => ?_)
    · have h := h.1 c14
      exact bX7_countBroken_b35 C0 Y hk4 _ _ _ _ _ _ h hO hS (lv_sub hl [0, 1, 2] rfl)
    · have h := h.2 c14
      refine lv_iinc (v := _ + 1) C0.1 C0.2.1 dX7_countBroken_32 hl (k := 1) rfl rfl (by decide) rfl (fun ls hl => ?_)
      exact bX7_countBroken_b35 C0 Y hk4 _ _ _ _ _ _ h hO hS (lv_sub hl [1, 0, 2] rfl)
set_option maxHeartbeats 4000000 in
set_option maxRecDepth 100000 in
theorem lX7_countBroken_b4 {p : Program} {l : Launch} {e : Env} {s : State} {m : MethodId} {args : Array Value} {below : List Frame} {meth : Method} {c : Code} {G : Gw} {x0 : Nat} {Φ : Hp → Int32 → Prop} (C0 : Mx p s m c cX7_countBroken 3 args yX7_countBroken.cls G) (Y : My meth (some .int))  : ∀ n9 : Nat, ∀ (S : Hp) (v1 : Int32) (v2 : Int32) (H : Heap) (locs : List Loc) (ls : Array Slot), it3 (wX7_countBroken_b4 x0 Φ) n9 S v1 v2 → Ok G S H → va_S (Ab G.b) s.heap H locs → lv_has ls 3 [(0, .ref x0), (1, .int v1), (2, .int v2)] → W p l e rm_X7_countBroken s m args below meth c H locs 0 0 (MQ below (gQ G (PI Φ)) args s rm_X7_countBroken.cells rm_X7_countBroken.slots (Ab G.b)) (F0 m 4 ls []) := by
  intro n9
  induction n9 with
  | zero => intro S v1 v2 H locs ls h; exact (h : False).elim
  | succ n9 ih => intro S v1 v2 H locs ls h hO hS hl; exact bX7_countBroken_b4 C0 Y ih S v1 v2 H locs ls h hO hS hl
def wX7_countBroken_b0 (x0 : Nat) (Φ : Hp → Int32 → Prop) (S : Hp) : Prop := ∃ n, it3 (wX7_countBroken_b4 x0 Φ) n S 0 0
set_option maxHeartbeats 4000000 in
set_option maxRecDepth 100000 in
theorem bX7_countBroken_b0 {p : Program} {l : Launch} {e : Env} {s : State} {m : MethodId} {args : Array Value} {below : List Frame} {meth : Method} {c : Code} {G : Gw} {x0 : Nat} {Φ : Hp → Int32 → Prop} (C0 : Mx p s m c cX7_countBroken 3 args yX7_countBroken.cls G) (Y : My meth (some .int))  : ∀ (S : Hp) (H : Heap) (locs : List Loc) (ls : Array Slot), wX7_countBroken_b0 x0 Φ S → Ok G S H → va_S (Ab G.b) s.heap H locs → lv_has ls 3 [(0, .ref x0)] → W p l e rm_X7_countBroken s m args below meth c H locs 0 0 (MQ below (gQ G (PI Φ)) args s rm_X7_countBroken.cells rm_X7_countBroken.slots (Ab G.b)) (F0 m 0 ls []) := by
  intro S H locs ls h hO hS hl
  unfold wX7_countBroken_b0 at h
  refine lv_iconst (v := 0) C0.1 C0.2.1 dX7_countBroken_0 (by decide) ?_
  refine lv_istore_n C0.1 C0.2.1 dX7_countBroken_1 rfl hl (by decide) rfl (fun ls hl => ?_)
  refine lv_iconst (v := 0) C0.1 C0.2.1 dX7_countBroken_2 (by decide) ?_
  refine lv_istore_n C0.1 C0.2.1 dX7_countBroken_3 rfl hl (by decide) rfl (fun ls hl => ?_)
  obtain ⟨n9, h⟩ := h
  exact lX7_countBroken_b4 C0 Y n9 _ _ _ _ _ _ h hO hS (lv_sub hl [2, 1, 0] rfl)
def wX7_countBroken (S : Hp) (x0 : Nat) (Φ : Hp → Int32 → Prop) : Prop := wX7_countBroken_b0 x0 Φ S
set_option maxRecDepth 100000 in
theorem mX7_countBroken {l : Launch} {G : Gw} {S : Hp} {x0 : Nat} {Φ : Hp → Int32 → Prop} (h : wX7_countBroken S x0 Φ) : gM l yX7_countBroken cX7_countBroken 3 (some .int) rm_X7_countBroken [.ref x0] G S (PI Φ) := by
  unfold gM
  refine Met.ofW (cc := cX7_countBroken) (maxL := 3) (ret := (some .int)) (by decide) rfl ?_
  intro p e s m args below meth c s₁ B hml hv
  obtain ⟨rfl, hw⟩ := hv
  obtain ⟨C0, Y, hO⟩ := mx_of B hml hw
  have hS : va_S (Ab G.b) s.heap s.heap [] := va_S.rf
  have hl := lv_entry ([.ref x0]) (n := 3) (Nat.le_of_ble_eq_true rfl)
  rw [lg_entry_eq]
  generalize (lg_sl ([.ref x0]) ++ List.replicate (3 - (lg_sl ([.ref x0])).length) Slot.unset).toArray = ls at hl ⊢
  have hl : lv_has ls 3 [(0, .ref x0)] := hl
  exact bX7_countBroken_b0 C0 Y S _ _ _ h hO hS hl

def rm_X7_repair : Room := { frames := 8, cells := 2, slots := 12, locals := 132 }
def wX7_repair_b0 (x0 : Nat) (x1 : Int32) (Φ : Hp → Int32 → Prop) (Ψ : Hp → String → Prop) (S : Hp) : Prop := isA S x0 7 ∧ wX7_linkAt S x0 x1 (fun S1 r2 => ∃ a4, r2 = some a4 ∧ isA S1 a4 5 ∧ ((¬ (S1.FI 328 a4) = 0 → ∀ S7, S7 = S1.setFI 328 a4 0 → isA S7 x0 7 ∧ ∃ a9, S7.FR 457 x0 = some a9 ∧ isA S7 a9 4 ∧ wX4_put S7 a9 x1 0 1 (fun S10 => isA S10 x0 7 ∧ ∃ a13, S10.FR 458 x0 = some a13 ∧ isA S10 a13 6 ∧ wX6_begin S10 a13 a4 (fun S14 => isA S14 x0 7 ∧ wX7_countBroken S14 x0 (fun S16 r17 => Φ S16 r17)))) ∧ ((S1.FI 328 a4) = 0 → Ψ S1 "java/lang/UnsupportedOperationException"))) Ψ
set_option maxHeartbeats 4000000 in
set_option maxRecDepth 100000 in
theorem bX7_repair_b0 {p : Program} {l : Launch} {e : Env} {s : State} {m : MethodId} {args : Array Value} {below : List Frame} {meth : Method} {c : Code} {G : Gw} {x0 : Nat} {x1 : Int32} {Φ : Hp → Int32 → Prop} {Ψ : Hp → String → Prop} (C0 : Mx p s m c cX7_repair 3 args yX7_repair.cls G) (Y : My meth (some .int)) (hl9 : l.stackTraces = false) (hx9 : ∀ x ∈ c.exceptionTable.toList, False)  : ∀ (S : Hp) (H : Heap) (locs : List Loc) (ls : Array Slot) (cells slots : Nat), wX7_repair_b0 x0 x1 Φ Ψ S → Ok G S H → va_S (Ab G.b) s.heap H locs → lv_has ls 3 [(0, .ref x0), (1, .int x1)] → cells + (2) ≤ 2 → slots + (12) ≤ 12 → W p l e rm_X7_repair s m args below meth c H locs cells slots (vx_MQ below (gQ G (PI Φ)) (gX G Ψ) args s rm_X7_repair.cells rm_X7_repair.slots (Ab G.b)) (F0 m 0 ls []) := by
  intro S H locs ls cells slots h hO hS hl hcc hss
  unfold wX7_repair_b0 at h
  refine lv_aload_n C0.1 C0.2.1 dX7_repair_0 rfl (lv_at hl 0 rfl) ?_
  refine lv_iload_n C0.1 C0.2.1 dX7_repair_1 rfl (lv_at hl 1 rfl) ?_
  obtain ⟨i3, h⟩ := h
  refine x_V C0 Y.2 hx9 hO hS (mX7_linkAt hl9 h) i3 (by decide) rfl rfl tb_770 tb_772 tb_18 tb_74 tb_773 hd_X7_linkAt rfl ⟨⟨by decide, by decide⟩, by show _ + 1 ≤ 2; omega, by show _ + 6 ≤ 12; omega⟩ hl.1 rfl (Nat.le_of_ble_eq_true rfl) dX7_repair_2 (by show _ + 1 ≤ 2; omega) (by show _ + 6 ≤ 12; omega) (kR (fun r2 S1 H locs h hO hS => ?_))
  change W _ _ _ _ _ _ _ _ _ _ _ _ (_ + 1) (_ + 6) _ _
  obtain ⟨a4, ea4, h⟩ := h
  subst ea4
  change W _ _ _ _ _ _ _ _ _ _ _ _ _ _ _ (F0 _ _ _ (.ref a4 :: _))
  refine lv_astore_n C0.1 C0.2.1 dX7_repair_5 rfl hl (by decide) rfl (fun ls hl => ?_)
  refine lv_aload_n C0.1 C0.2.1 dX7_repair_6 rfl (lv_at hl 0 rfl) ?_
  obtain ⟨i5, h⟩ := h
  refine g5_8 C0 hO i5 tb_644 dX7_repair_7 ?_
  refine lv_if_ne (tgt := 23) C0.1 C0.2.1 dX7_repair_10 (by decide) (fun c6 => ?_) (fun c6 => ?_)
  · have h := h.1 c6
    refine lv_aload_n C0.1 C0.2.1 dX7_repair_23 rfl (lv_at hl 0 rfl) ?_
    refine lv_iconst (v := 0) C0.1 C0.2.1 dX7_repair_24 (by decide) ?_
    refine p5_8 C0 hO hS i5 ⟨rfl, rfl⟩ tb_644 dX7_repair_25 (fun H locs hO hS => ?_)
    have h := h _ rfl
    refine lv_aload_n C0.1 C0.2.1 dX7_repair_28 rfl (lv_at hl 1 rfl) ?_
    obtain ⟨i8, h⟩ := h
    obtain ⟨a9, ea9, h⟩ := h
    refine g7_9 C0 hO i8 ea9 tb_195 dX7_repair_29 ?_
    refine lv_iload_n C0.1 C0.2.1 dX7_repair_32 rfl (lv_at hl 2 rfl) ?_
    refine lv_lconst (v := 0) C0.1 C0.2.1 dX7_repair_33 (by decide) ?_
    refine lv_lconst (v := 1) C0.1 C0.2.1 dX7_repair_34 (by decide) ?_
    obtain ⟨i11, h⟩ := h
    refine c_V C0 hO hS (mX4_put h) i11 (by decide) rfl rfl tb_878 tb_319 tb_320 tb_78 tb_321 hd_X4_put rfl ⟨⟨by decide, by decide⟩, by show _ + 0 ≤ 2; omega, by show _ + 0 ≤ 12; omega⟩ hl.1 rfl (Nat.le_of_ble_eq_true rfl) dX7_repair_35 (kV (fun S10 H locs h hO hS => ?_))
    change W _ _ _ _ _ _ _ _ _ _ _ _ (_ + 0) (_ + 0) _ _
    refine lv_aload_n C0.1 C0.2.1 dX7_repair_38 rfl (lv_at hl 1 rfl) ?_
    obtain ⟨i12, h⟩ := h
    obtain ⟨a13, ea13, h⟩ := h
    refine g7_10 C0 hO i12 ea13 tb_196 dX7_repair_39 ?_
    refine lv_aload_n C0.1 C0.2.1 dX7_repair_42 rfl (lv_at hl 0 rfl) ?_
    obtain ⟨i15, h⟩ := h
    refine c_V C0 hO hS (mX6_begin h) i15 (by decide) rfl rfl tb_735 tb_736 tb_737 tb_80 tb_738 hd_X6_begin rfl ⟨⟨by decide, by decide⟩, by show _ + 0 ≤ 2; omega, by show _ + 0 ≤ 12; omega⟩ hl.1 rfl (Nat.le_of_ble_eq_true rfl) dX7_repair_43 (kV (fun S14 H locs h hO hS => ?_))
    change W _ _ _ _ _ _ _ _ _ _ _ _ (_ + 0) (_ + 0) _ _
    refine lv_aload_n C0.1 C0.2.1 dX7_repair_46 rfl (lv_at hl 1 rfl) ?_
    obtain ⟨i18, h⟩ := h
    refine c_V C0 hO hS (mX7_countBroken h) i18 (by decide) rfl rfl tb_950 tb_952 tb_28 tb_74 tb_953 hd_X7_countBroken rfl ⟨⟨by decide, by decide⟩, by show _ + 0 ≤ 2; omega, by show _ + 0 ≤ 12; omega⟩ hl.1 rfl (Nat.le_of_ble_eq_true rfl) dX7_repair_47 (kI (fun r17 S16 H locs h hO hS => ?_))
    change W _ _ _ _ _ _ _ _ _ _ _ _ (_ + 0) (_ + 0) _ _
    refine vx_ret ?_
    exact e_I C0 Y hO hS h (by show _ ≤ 2; omega) (by show _ ≤ 12; omega) dX7_repair_50
  · have h := h.2 c6
    exact t_S (text := "the link is not broken") (names := xnm) C0 hl9 Y.2 hx9 hO hS xf_UnsupportedOperationException xnm_ok tb_602 tb_90 (by decide +kernel) xat_100 xgd_10000096 hl.1 h dX7_repair_13 dX7_repair_16 dX7_repair_17 dX7_repair_19 dX7_repair_22 (Nat.le_of_ble_eq_true rfl) (Nat.le_of_ble_eq_true rfl) (by show _ ≤ 2; omega) (by show _ ≤ 12; omega) (by show _ ≤ 2; omega) (by show _ ≤ 12; omega)
def wX7_repair (S : Hp) (x0 : Nat) (x1 : Int32) (Φ : Hp → Int32 → Prop) (Ψ : Hp → String → Prop) : Prop := wX7_repair_b0 x0 x1 Φ Ψ S
set_option maxRecDepth 100000 in
theorem mX7_repair {l : Launch} {G : Gw} (hl9 : l.stackTraces = false) {S : Hp} {x0 : Nat} {x1 : Int32} {Φ : Hp → Int32 → Prop} {Ψ : Hp → String → Prop} (h : wX7_repair S x0 x1 Φ Ψ) : gT l yX7_repair cX7_repair 3 (some .int) rm_X7_repair [.ref x0, .int x1] G S (PI Φ) Ψ := by
  unfold gT
  refine vx_ofW (cc := cX7_repair) (maxL := 3) (ret := (some .int)) (by decide) rfl ?_
  intro p e s m args below meth c s₁ B hml hx9 hv
  obtain ⟨rfl, hw⟩ := hv
  obtain ⟨C0, Y, hO⟩ := mx_of B hml hw
  have hS : va_S (Ab G.b) s.heap s.heap [] := va_S.rf
  have hl := lv_entry ([.ref x0, .int x1]) (n := 3) (Nat.le_of_ble_eq_true rfl)
  rw [lg_entry_eq]
  generalize (lg_sl ([.ref x0, .int x1]) ++ List.replicate (3 - (lg_sl ([.ref x0, .int x1])).length) Slot.unset).toArray = ls at hl ⊢
  have hl : lv_has ls 3 [(0, .ref x0), (1, .int x1)] := hl
  exact bX7_repair_b0 C0 Y hl9 hx9 S _ _ _ 0 0 h hO hS hl (by decide) (by decide)

def rm_X7_findSlacks : Room := { frames := 7, cells := 1, slots := 6, locals := 111 }
def wX7_findSlacks_b14 (x0 : Nat) (x1 : Int32) (Φ : Hp → Prop) (Ψ : Hp → String → Prop) (k14 : Hp → Int32 → Prop) (S : Hp) (v2 : Int32) : Prop := isA S x0 7 ∧ ∃ a2, S.FR 449 x0 = some a2 ∧ isA S a2 9 ∧ wJx4a65c_size_8abf5 S a2 (fun S3 r4 => ((r4 ≤ v2 → Φ S3) ∧ (¬ (r4 ≤ v2) → isA S3 x0 7 ∧ ∃ a8, S3.FR 449 x0 = some a8 ∧ isA S3 a8 9 ∧ wJx4a65c_get_915e3 S3 a8 v2 (fun S9 r10 => ∃ a12, r10 = some a12 ∧ isA S9 a12 5 ∧ isA S9 x0 7 ∧ ∃ a15, S9.FR 456 x0 = some a15 ∧ isA S9 a15 4 ∧ wX4_put S9 a15 (S9.FI 324 a12) ((S9.FI 330 a12).toInt64) 1 (fun S16 => isA S16 x0 7 ∧ ∃ a19, S16.FR 456 x0 = some a19 ∧ isA S16 a12 5 ∧ wX5_over S16 a12 (fun S20 r21 => isA S20 a12 5 ∧ wX5_carry S20 a12 a19 (if 0 ≤ r21 then r21 else 0 - r21) (fun S23 => k14 S23 (v2 + 1))))))))
set_option maxHeartbeats 4000000 in
set_option maxRecDepth 100000 in
theorem bX7_findSlacks_b14 {p : Program} {l : Launch} {e : Env} {s : State} {m : MethodId} {args : Array Value} {below : List Frame} {meth : Method} {c : Code} {G : Gw} {x0 : Nat} {x1 : Int32} {Φ : Hp → Prop} {Ψ : Hp → String → Prop} (C0 : Mx p s m c cX7_findSlacks 4 args yX7_findSlacks.cls G) (Y : My meth none) (hl9 : l.stackTraces = false) (hx9 : ∀ x ∈ c.exceptionTable.toList, False) {k14 : Hp → Int32 → Prop} (hk14 : ∀ (S : Hp) (v2 : Int32) (H : Heap) (locs : List Loc) (ls : Array Slot) (cells slots : Nat), k14 S v2 → Ok G S H → va_S (Ab G.b) s.heap H locs → lv_has ls 4 [(0, .ref x0), (1, .int x1), (2, .int v2)] → cells + (0) ≤ 1 → slots + (0) ≤ 6 → W p l e rm_X7_findSlacks s m args below meth c H locs cells slots (vx_MQ below (gQ G (PV Φ)) (gX G Ψ) args s rm_X7_findSlacks.cells rm_X7_findSlacks.slots (Ab G.b)) (F0 m 14 ls [])) : ∀ (S : Hp) (v2 : Int32) (H : Heap) (locs : List Loc) (ls : Array Slot) (cells slots : Nat), wX7_findSlacks_b14 x0 x1 Φ Ψ k14 S v2 → Ok G S H → va_S (Ab G.b) s.heap H locs → lv_has ls 4 [(0, .ref x0), (1, .int x1), (2, .int v2)] → cells + (0) ≤ 1 → slots + (0) ≤ 6 → W p l e rm_X7_findSlacks s m args below meth c H locs cells slots (vx_MQ below (gQ G (PV Φ)) (gX G Ψ) args s rm_X7_findSlacks.cells rm_X7_findSlacks.slots (Ab G.b)) (F0 m 14 ls []) := by
  intro S v2 H locs ls cells slots h hO hS hl hcc hss
  unfold wX7_findSlacks_b14 at h
  refine lv_iload_n C0.1 C0.2.1 dX7_findSlacks_14 rfl (lv_at hl 2 rfl) ?_
  refine lv_aload_n C0.1 C0.2.1 dX7_findSlacks_15 rfl (lv_at hl 0 rfl) ?_
  obtain ⟨i1, h⟩ := h
  obtain ⟨a2, ea2, h⟩ := h
  refine g7_1 C0 hO i1 ea2 tb_187 dX7_findSlacks_16 ?_
  obtain ⟨i5, h⟩ := h
  refine c_V C0 hO hS (mJx4a65c_size_8abf5 h) i5 (by decide) rfl rfl tb_261 tb_262 tb_263 tb_77 tb_264 hd_Jx4a65c_size_8abf5 rfl ⟨⟨by decide, by decide⟩, by show _ + 0 ≤ 1; omega, by show _ + 0 ≤ 6; omega⟩ hl.1 rfl (Nat.le_of_ble_eq_true rfl) dX7_findSlacks_19 (kI (fun r4 S3 H locs h hO hS => ?_))
  change W _ _ _ _ _ _ _ _ _ _ _ _ (_ + 0) (_ + 0) _ _
  refine lv_icmp_ge (tgt := 75) C0.1 C0.2.1 dX7_findSlacks_22 (by decide) (fun c6 => ?_) (fun c6 => ?_)
  · have h := h.1 c6
    refine vx_ret ?_
    exact e_V C0 Y hO hS h (by show _ ≤ 1; omega) (by show _ ≤ 6; omega) dX7_findSlacks_75
  · have h := h.2 c6
    refine lv_aload_n C0.1 C0.2.1 dX7_findSlacks_25 rfl (lv_at hl 0 rfl) ?_
    obtain ⟨i7, h⟩ := h
    obtain ⟨a8, ea8, h⟩ := h
    refine g7_1 C0 hO i7 ea8 tb_187 dX7_findSlacks_26 ?_
    refine lv_iload_n C0.1 C0.2.1 dX7_findSlacks_29 rfl (lv_at hl 2 rfl) ?_
    obtain ⟨i11, h⟩ := h
    refine c_V C0 hO hS (mJx4a65c_get_915e3 h) i11 (by decide) rfl rfl tb_265 tb_266 tb_267 tb_77 tb_268 hd_Jx4a65c_get_915e3 rfl ⟨⟨by decide, by decide⟩, by show _ + 0 ≤ 1; omega, by show _ + 0 ≤ 6; omega⟩ hl.1 rfl (Nat.le_of_ble_eq_true rfl) dX7_findSlacks_30 (kR (fun r10 S9 H locs h hO hS => ?_))
    change W _ _ _ _ _ _ _ _ _ _ _ _ (_ + 0) (_ + 0) _ _
    obtain ⟨a12, ea12, h⟩ := h
    subst ea12
    change W _ _ _ _ _ _ _ _ _ _ _ _ _ _ _ (F0 _ _ _ (.ref a12 :: _))
    obtain ⟨i13, h⟩ := h
    refine r_castO C0 hO i13 (by decide) rfl tb_329 dX7_findSlacks_33 ?_
    refine lv_astore_n C0.1 C0.2.1 dX7_findSlacks_36 rfl hl (by decide) rfl (fun ls hl => ?_)
    refine lv_aload_n C0.1 C0.2.1 dX7_findSlacks_37 rfl (lv_at hl 1 rfl) ?_
    obtain ⟨i14, h⟩ := h
    obtain ⟨a15, ea15, h⟩ := h
    refine g7_8 C0 hO i14 ea15 tb_194 dX7_findSlacks_38 ?_
    refine lv_aload_n C0.1 C0.2.1 dX7_findSlacks_41 rfl (lv_at hl 0 rfl) ?_
    refine g5_4 C0 hO i13 tb_637 dX7_findSlacks_42 ?_
    refine lv_aload_n C0.1 C0.2.1 dX7_findSlacks_45 rfl (lv_at hl 0 rfl) ?_
    refine g5_10 C0 hO i13 tb_646 dX7_findSlacks_46 ?_
    refine lv_i2l C0.1 C0.2.1 dX7_findSlacks_49 rfl ?_
    refine lv_lconst (v := 1) C0.1 C0.2.1 dX7_findSlacks_50 (by decide) ?_
    obtain ⟨i17, h⟩ := h
    refine c_V C0 hO hS (mX4_put h) i17 (by decide) rfl rfl tb_878 tb_319 tb_320 tb_78 tb_321 hd_X4_put rfl ⟨⟨by decide, by decide⟩, by show _ + 0 ≤ 1; omega, by show _ + 0 ≤ 6; omega⟩ hl.1 rfl (Nat.le_of_ble_eq_true rfl) dX7_findSlacks_51 (kV (fun S16 H locs h hO hS => ?_))
    change W _ _ _ _ _ _ _ _ _ _ _ _ (_ + 0) (_ + 0) _ _
    refine lv_aload_n C0.1 C0.2.1 dX7_findSlacks_54 rfl (lv_at hl 0 rfl) ?_
    refine lv_aload_n C0.1 C0.2.1 dX7_findSlacks_55 rfl (lv_at hl 1 rfl) ?_
    obtain ⟨i18, h⟩ := h
    obtain ⟨a19, ea19, h⟩ := h
    refine g7_8 C0 hO i18 ea19 tb_194 dX7_findSlacks_56 ?_
    refine lv_aload_n C0.1 C0.2.1 dX7_findSlacks_59 rfl (lv_at hl 0 rfl) ?_
    obtain ⟨i22, h⟩ := h
    refine c_V C0 hO hS (mX5_over h) i22 (by decide) rfl rfl tb_887 tb_361 tb_362 tb_91 tb_363 hd_X5_over rfl ⟨⟨by decide, by decide⟩, by show _ + 0 ≤ 1; omega, by show _ + 0 ≤ 6; omega⟩ hl.1 rfl (Nat.le_of_ble_eq_true rfl) dX7_findSlacks_60 (kI (fun r21 S20 H locs h hO hS => ?_))
    change W _ _ _ _ _ _ _ _ _ _ _ _ (_ + 0) (_ + 0) _ _
    refine va_mabs C0.1 C0.2.1 (C0.2.2.1.trans hl.1.symm) C0.2.2.2.1 (C0.2.2.2.2.1 _ tb_302) (C0.2.2.2.2.1 _ tb_303) (C0.2.2.2.2.1 _ tb_94) (C0.2.2.2.2.1 _ tb_304) (Nat.le_of_ble_eq_true rfl) (Nat.le_of_ble_eq_true rfl) (by show _ ≤ 1; omega) (by show _ ≤ 6; omega) dX7_findSlacks_63 ?_
    obtain ⟨i24, h⟩ := h
    refine c_V C0 hO hS (mX5_carry h) i24 (by decide) rfl rfl tb_888 tb_365 tb_366 tb_91 tb_367 hd_X5_carry rfl ⟨⟨by decide, by decide⟩, by show _ + 0 ≤ 1; omega, by show _ + 0 ≤ 6; omega⟩ hl.1 rfl (Nat.le_of_ble_eq_true rfl) dX7_findSlacks_66 (kV (fun S23 H locs h hO hS => ?_))
    change W _ _ _ _ _ _ _ _ _ _ _ _ (_ + 0) (_ + 0) _ _
    refine lv_iinc (v := _ + 1) C0.1 C0.2.1 dX7_findSlacks_69 hl (k := 3) rfl rfl (by decide) rfl (fun ls hl => ?_)
    refine lv_goto (tgt := 14) C0.1 C0.2.1 dX7_findSlacks_72 (by decide) ?_
    exact hk14 _ _ _ _ _ _ _ h hO hS (lv_sub hl [2, 3, 0] rfl) (by omega) (by omega)
set_option maxHeartbeats 4000000 in
set_option maxRecDepth 100000 in
theorem lX7_findSlacks_b14 {p : Program} {l : Launch} {e : Env} {s : State} {m : MethodId} {args : Array Value} {below : List Frame} {meth : Method} {c : Code} {G : Gw} {x0 : Nat} {x1 : Int32} {Φ : Hp → Prop} {Ψ : Hp → String → Prop} (C0 : Mx p s m c cX7_findSlacks 4 args yX7_findSlacks.cls G) (Y : My meth none) (hl9 : l.stackTraces = false) (hx9 : ∀ x ∈ c.exceptionTable.toList, False)  : ∀ n9 : Nat, ∀ (S : Hp) (v2 : Int32) (H : Heap) (locs : List Loc) (ls : Array Slot) (cells slots : Nat), it2 (wX7_findSlacks_b14 x0 x1 Φ Ψ) n9 S v2 → Ok G S H → va_S (Ab G.b) s.heap H locs → lv_has ls 4 [(0, .ref x0), (1, .int x1), (2, .int v2)] → cells + (0) ≤ 1 → slots + (0) ≤ 6 → W p l e rm_X7_findSlacks s m args below meth c H locs cells slots (vx_MQ below (gQ G (PV Φ)) (gX G Ψ) args s rm_X7_findSlacks.cells rm_X7_findSlacks.slots (Ab G.b)) (F0 m 14 ls []) := by
  intro n9
  induction n9 with
  | zero => intro S v2 H locs ls cells slots h; exact (h : False).elim
  | succ n9 ih => intro S v2 H locs ls cells slots h hO hS hl hcc hss; exact bX7_findSlacks_b14 C0 Y hl9 hx9 ih S v2 H locs ls cells slots h hO hS hl (by omega) (by omega)
def wX7_findSlacks_b0 (x0 : Nat) (x1 : Int32) (Φ : Hp → Prop) (Ψ : Hp → String → Prop) (S : Hp) : Prop := isA S x0 7 ∧ wX7_checkShaft S x0 x1 (fun S1 => isA S1 x0 7 ∧ ∃ a4, S1.FR 456 x0 = some a4 ∧ isA S1 a4 4 ∧ wX4_reset S1 a4 (fun S5 => ∃ n, it2 (wX7_findSlacks_b14 x0 x1 Φ Ψ) n S5 0)) Ψ
set_option maxHeartbeats 4000000 in
set_option maxRecDepth 100000 in
theorem bX7_findSlacks_b0 {p : Program} {l : Launch} {e : Env} {s : State} {m : MethodId} {args : Array Value} {below : List Frame} {meth : Method} {c : Code} {G : Gw} {x0 : Nat} {x1 : Int32} {Φ : Hp → Prop} {Ψ : Hp → String → Prop} (C0 : Mx p s m c cX7_findSlacks 4 args yX7_findSlacks.cls G) (Y : My meth none) (hl9 : l.stackTraces = false) (hx9 : ∀ x ∈ c.exceptionTable.toList, False)  : ∀ (S : Hp) (H : Heap) (locs : List Loc) (ls : Array Slot) (cells slots : Nat), wX7_findSlacks_b0 x0 x1 Φ Ψ S → Ok G S H → va_S (Ab G.b) s.heap H locs → lv_has ls 4 [(0, .ref x0), (1, .int x1)] → cells + (1) ≤ 1 → slots + (6) ≤ 6 → W p l e rm_X7_findSlacks s m args below meth c H locs cells slots (vx_MQ below (gQ G (PV Φ)) (gX G Ψ) args s rm_X7_findSlacks.cells rm_X7_findSlacks.slots (Ab G.b)) (F0 m 0 ls []) := by
  intro S H locs ls cells slots h hO hS hl hcc hss
  unfold wX7_findSlacks_b0 at h
  refine lv_aload_n C0.1 C0.2.1 dX7_findSlacks_0 rfl (lv_at hl 0 rfl) ?_
  refine lv_iload_n C0.1 C0.2.1 dX7_findSlacks_1 rfl (lv_at hl 1 rfl) ?_
  obtain ⟨i2, h⟩ := h
  refine x_V C0 Y.2 hx9 hO hS (mX7_checkShaft hl9 h) i2 (by decide) rfl rfl tb_563 tb_565 tb_12 tb_74 tb_566 hd_X7_checkShaft rfl ⟨⟨by decide, by decide⟩, by show _ + 1 ≤ 1; omega, by show _ + 6 ≤ 6; omega⟩ hl.1 rfl (Nat.le_of_ble_eq_true rfl) dX7_findSlacks_2 (by show _ + 1 ≤ 1; omega) (by show _ + 6 ≤ 6; omega) (kV (fun S1 H locs h hO hS => ?_))
  change W _ _ _ _ _ _ _ _ _ _ _ _ (_ + 1) (_ + 6) _ _
  refine lv_aload_n C0.1 C0.2.1 dX7_findSlacks_5 rfl (lv_at hl 0 rfl) ?_
  obtain ⟨i3, h⟩ := h
  obtain ⟨a4, ea4, h⟩ := h
  refine g7_8 C0 hO i3 ea4 tb_194 dX7_findSlacks_6 ?_
  obtain ⟨i6, h⟩ := h
  refine c_V C0 hO hS (mX4_reset h) i6 (by decide) rfl rfl tb_877 tb_314 tb_315 tb_78 tb_316 hd_X4_reset rfl ⟨⟨by decide, by decide⟩, by show _ + 0 ≤ 1; omega, by show _ + 0 ≤ 6; omega⟩ hl.1 rfl (Nat.le_of_ble_eq_true rfl) dX7_findSlacks_9 (kV (fun S5 H locs h hO hS => ?_))
  change W _ _ _ _ _ _ _ _ _ _ _ _ (_ + 0) (_ + 0) _ _
  refine lv_iconst (v := 0) C0.1 C0.2.1 dX7_findSlacks_12 (by decide) ?_
  refine lv_istore_n C0.1 C0.2.1 dX7_findSlacks_13 rfl hl (by decide) rfl (fun ls hl => ?_)
  obtain ⟨n9, h⟩ := h
  exact lX7_findSlacks_b14 C0 Y hl9 hx9 n9 _ _ _ _ _ _ _ h hO hS (lv_sub hl [1, 2, 0] rfl) (by omega) (by omega)
def wX7_findSlacks (S : Hp) (x0 : Nat) (x1 : Int32) (Φ : Hp → Prop) (Ψ : Hp → String → Prop) : Prop := wX7_findSlacks_b0 x0 x1 Φ Ψ S
set_option maxRecDepth 100000 in
theorem mX7_findSlacks {l : Launch} {G : Gw} (hl9 : l.stackTraces = false) {S : Hp} {x0 : Nat} {x1 : Int32} {Φ : Hp → Prop} {Ψ : Hp → String → Prop} (h : wX7_findSlacks S x0 x1 Φ Ψ) : gT l yX7_findSlacks cX7_findSlacks 4 none rm_X7_findSlacks [.ref x0, .int x1] G S (PV Φ) Ψ := by
  unfold gT
  refine vx_ofW (cc := cX7_findSlacks) (maxL := 4) (ret := none) (by decide) rfl ?_
  intro p e s m args below meth c s₁ B hml hx9 hv
  obtain ⟨rfl, hw⟩ := hv
  obtain ⟨C0, Y, hO⟩ := mx_of B hml hw
  have hS : va_S (Ab G.b) s.heap s.heap [] := va_S.rf
  have hl := lv_entry ([.ref x0, .int x1]) (n := 4) (Nat.le_of_ble_eq_true rfl)
  rw [lg_entry_eq]
  generalize (lg_sl ([.ref x0, .int x1]) ++ List.replicate (4 - (lg_sl ([.ref x0, .int x1])).length) Slot.unset).toArray = ls at hl ⊢
  have hl : lv_has ls 4 [(0, .ref x0), (1, .int x1)] := hl
  exact bX7_findSlacks_b0 C0 Y hl9 hx9 S _ _ _ 0 0 h hO hS hl (by decide) (by decide)

def rm_X7_slackOfOver : Room := { frames := 8, cells := 1, slots := 6, locals := 134 }
def wX7_slackOfOver_b0 (x0 : Nat) (x1 : Int32) (Φ : Hp → Int64 → Prop) (Ψ : Hp → String → Prop) (S : Hp) : Prop := isA S x0 7 ∧ wX7_findSlacks S x0 x1 (fun S1 => isA S1 x0 7 ∧ ∃ a4, S1.FR 456 x0 = some a4 ∧ isA S1 a4 4 ∧ wX4_overAt S1 a4 x1 (fun S5 r6 => Φ S5 r6)) Ψ
set_option maxHeartbeats 4000000 in
set_option maxRecDepth 100000 in
theorem bX7_slackOfOver_b0 {p : Program} {l : Launch} {e : Env} {s : State} {m : MethodId} {args : Array Value} {below : List Frame} {meth : Method} {c : Code} {G : Gw} {x0 : Nat} {x1 : Int32} {Φ : Hp → Int64 → Prop} {Ψ : Hp → String → Prop} (C0 : Mx p s m c cX7_slackOfOver 2 args yX7_slackOfOver.cls G) (Y : My meth (some .long)) (hl9 : l.stackTraces = false) (hx9 : ∀ x ∈ c.exceptionTable.toList, False)  : ∀ (S : Hp) (H : Heap) (locs : List Loc) (ls : Array Slot) (cells slots : Nat), wX7_slackOfOver_b0 x0 x1 Φ Ψ S → Ok G S H → va_S (Ab G.b) s.heap H locs → lv_has ls 2 [(0, .ref x0), (1, .int x1)] → cells + (1) ≤ 1 → slots + (6) ≤ 6 → W p l e rm_X7_slackOfOver s m args below meth c H locs cells slots (vx_MQ below (gQ G (PJ Φ)) (gX G Ψ) args s rm_X7_slackOfOver.cells rm_X7_slackOfOver.slots (Ab G.b)) (F0 m 0 ls []) := by
  intro S H locs ls cells slots h hO hS hl hcc hss
  unfold wX7_slackOfOver_b0 at h
  refine lv_aload_n C0.1 C0.2.1 dX7_slackOfOver_0 rfl (lv_at hl 0 rfl) ?_
  refine lv_iload_n C0.1 C0.2.1 dX7_slackOfOver_1 rfl (lv_at hl 1 rfl) ?_
  obtain ⟨i2, h⟩ := h
  refine x_V C0 Y.2 hx9 hO hS (mX7_findSlacks hl9 h) i2 (by decide) rfl rfl tb_961 tb_963 tb_29 tb_74 tb_964 hd_X7_findSlacks rfl ⟨⟨by decide, by decide⟩, by show _ + 1 ≤ 1; omega, by show _ + 6 ≤ 6; omega⟩ hl.1 rfl (Nat.le_of_ble_eq_true rfl) dX7_slackOfOver_2 (by show _ + 1 ≤ 1; omega) (by show _ + 6 ≤ 6; omega) (kV (fun S1 H locs h hO hS => ?_))
  change W _ _ _ _ _ _ _ _ _ _ _ _ (_ + 1) (_ + 6) _ _
  refine lv_aload_n C0.1 C0.2.1 dX7_slackOfOver_5 rfl (lv_at hl 0 rfl) ?_
  obtain ⟨i3, h⟩ := h
  obtain ⟨a4, ea4, h⟩ := h
  refine g7_8 C0 hO i3 ea4 tb_194 dX7_slackOfOver_6 ?_
  refine lv_iload_n C0.1 C0.2.1 dX7_slackOfOver_9 rfl (lv_at hl 1 rfl) ?_
  obtain ⟨i7, h⟩ := h
  refine c_V C0 hO hS (mX4_overAt h) i7 (by decide) rfl rfl tb_249 tb_250 tb_251 tb_78 tb_252 hd_X4_overAt rfl ⟨⟨by decide, by decide⟩, by show _ + 0 ≤ 1; omega, by show _ + 0 ≤ 6; omega⟩ hl.1 rfl (Nat.le_of_ble_eq_true rfl) dX7_slackOfOver_10 (kJ (fun r6 S5 H locs h hO hS => ?_))
  change W _ _ _ _ _ _ _ _ _ _ _ _ (_ + 0) (_ + 0) _ _
  refine vx_ret ?_
  exact e_J C0 Y hO hS h (by show _ ≤ 1; omega) (by show _ ≤ 6; omega) dX7_slackOfOver_13
def wX7_slackOfOver (S : Hp) (x0 : Nat) (x1 : Int32) (Φ : Hp → Int64 → Prop) (Ψ : Hp → String → Prop) : Prop := wX7_slackOfOver_b0 x0 x1 Φ Ψ S
set_option maxRecDepth 100000 in
theorem mX7_slackOfOver {l : Launch} {G : Gw} (hl9 : l.stackTraces = false) {S : Hp} {x0 : Nat} {x1 : Int32} {Φ : Hp → Int64 → Prop} {Ψ : Hp → String → Prop} (h : wX7_slackOfOver S x0 x1 Φ Ψ) : gT l yX7_slackOfOver cX7_slackOfOver 2 (some .long) rm_X7_slackOfOver [.ref x0, .int x1] G S (PJ Φ) Ψ := by
  unfold gT
  refine vx_ofW (cc := cX7_slackOfOver) (maxL := 2) (ret := (some .long)) (by decide) rfl ?_
  intro p e s m args below meth c s₁ B hml hx9 hv
  obtain ⟨rfl, hw⟩ := hv
  obtain ⟨C0, Y, hO⟩ := mx_of B hml hw
  have hS : va_S (Ab G.b) s.heap s.heap [] := va_S.rf
  have hl := lv_entry ([.ref x0, .int x1]) (n := 2) (Nat.le_of_ble_eq_true rfl)
  rw [lg_entry_eq]
  generalize (lg_sl ([.ref x0, .int x1]) ++ List.replicate (2 - (lg_sl ([.ref x0, .int x1])).length) Slot.unset).toArray = ls at hl ⊢
  have hl : lv_has ls 2 [(0, .ref x0), (1, .int x1)] := hl
  exact bX7_slackOfOver_b0 C0 Y hl9 hx9 S _ _ _ 0 0 h hO hS hl (by decide) (by decide)

def rm_X7_slackOfUnder : Room := { frames := 8, cells := 1, slots := 6, locals := 134 }
def wX7_slackOfUnder_b0 (x0 : Nat) (x1 : Int32) (Φ : Hp → Int64 → Prop) (Ψ : Hp → String → Prop) (S : Hp) : Prop := isA S x0 7 ∧ wX7_findSlacks S x0 x1 (fun S1 => isA S1 x0 7 ∧ ∃ a4, S1.FR 456 x0 = some a4 ∧ isA S1 a4 4 ∧ wX4_underAt S1 a4 x1 (fun S5 r6 => Φ S5 r6)) Ψ
set_option maxHeartbeats 4000000 in
set_option maxRecDepth 100000 in
theorem bX7_slackOfUnder_b0 {p : Program} {l : Launch} {e : Env} {s : State} {m : MethodId} {args : Array Value} {below : List Frame} {meth : Method} {c : Code} {G : Gw} {x0 : Nat} {x1 : Int32} {Φ : Hp → Int64 → Prop} {Ψ : Hp → String → Prop} (C0 : Mx p s m c cX7_slackOfUnder 2 args yX7_slackOfUnder.cls G) (Y : My meth (some .long)) (hl9 : l.stackTraces = false) (hx9 : ∀ x ∈ c.exceptionTable.toList, False)  : ∀ (S : Hp) (H : Heap) (locs : List Loc) (ls : Array Slot) (cells slots : Nat), wX7_slackOfUnder_b0 x0 x1 Φ Ψ S → Ok G S H → va_S (Ab G.b) s.heap H locs → lv_has ls 2 [(0, .ref x0), (1, .int x1)] → cells + (1) ≤ 1 → slots + (6) ≤ 6 → W p l e rm_X7_slackOfUnder s m args below meth c H locs cells slots (vx_MQ below (gQ G (PJ Φ)) (gX G Ψ) args s rm_X7_slackOfUnder.cells rm_X7_slackOfUnder.slots (Ab G.b)) (F0 m 0 ls []) := by
  intro S H locs ls cells slots h hO hS hl hcc hss
  unfold wX7_slackOfUnder_b0 at h
  refine lv_aload_n C0.1 C0.2.1 dX7_slackOfUnder_0 rfl (lv_at hl 0 rfl) ?_
  refine lv_iload_n C0.1 C0.2.1 dX7_slackOfUnder_1 rfl (lv_at hl 1 rfl) ?_
  obtain ⟨i2, h⟩ := h
  refine x_V C0 Y.2 hx9 hO hS (mX7_findSlacks hl9 h) i2 (by decide) rfl rfl tb_961 tb_963 tb_29 tb_74 tb_964 hd_X7_findSlacks rfl ⟨⟨by decide, by decide⟩, by show _ + 1 ≤ 1; omega, by show _ + 6 ≤ 6; omega⟩ hl.1 rfl (Nat.le_of_ble_eq_true rfl) dX7_slackOfUnder_2 (by show _ + 1 ≤ 1; omega) (by show _ + 6 ≤ 6; omega) (kV (fun S1 H locs h hO hS => ?_))
  change W _ _ _ _ _ _ _ _ _ _ _ _ (_ + 1) (_ + 6) _ _
  refine lv_aload_n C0.1 C0.2.1 dX7_slackOfUnder_5 rfl (lv_at hl 0 rfl) ?_
  obtain ⟨i3, h⟩ := h
  obtain ⟨a4, ea4, h⟩ := h
  refine g7_8 C0 hO i3 ea4 tb_194 dX7_slackOfUnder_6 ?_
  refine lv_iload_n C0.1 C0.2.1 dX7_slackOfUnder_9 rfl (lv_at hl 1 rfl) ?_
  obtain ⟨i7, h⟩ := h
  refine c_V C0 hO hS (mX4_underAt h) i7 (by decide) rfl rfl tb_257 tb_258 tb_259 tb_78 tb_260 hd_X4_underAt rfl ⟨⟨by decide, by decide⟩, by show _ + 0 ≤ 1; omega, by show _ + 0 ≤ 6; omega⟩ hl.1 rfl (Nat.le_of_ble_eq_true rfl) dX7_slackOfUnder_10 (kJ (fun r6 S5 H locs h hO hS => ?_))
  change W _ _ _ _ _ _ _ _ _ _ _ _ (_ + 0) (_ + 0) _ _
  refine vx_ret ?_
  exact e_J C0 Y hO hS h (by show _ ≤ 1; omega) (by show _ ≤ 6; omega) dX7_slackOfUnder_13
def wX7_slackOfUnder (S : Hp) (x0 : Nat) (x1 : Int32) (Φ : Hp → Int64 → Prop) (Ψ : Hp → String → Prop) : Prop := wX7_slackOfUnder_b0 x0 x1 Φ Ψ S
set_option maxRecDepth 100000 in
theorem mX7_slackOfUnder {l : Launch} {G : Gw} (hl9 : l.stackTraces = false) {S : Hp} {x0 : Nat} {x1 : Int32} {Φ : Hp → Int64 → Prop} {Ψ : Hp → String → Prop} (h : wX7_slackOfUnder S x0 x1 Φ Ψ) : gT l yX7_slackOfUnder cX7_slackOfUnder 2 (some .long) rm_X7_slackOfUnder [.ref x0, .int x1] G S (PJ Φ) Ψ := by
  unfold gT
  refine vx_ofW (cc := cX7_slackOfUnder) (maxL := 2) (ret := (some .long)) (by decide) rfl ?_
  intro p e s m args below meth c s₁ B hml hx9 hv
  obtain ⟨rfl, hw⟩ := hv
  obtain ⟨C0, Y, hO⟩ := mx_of B hml hw
  have hS : va_S (Ab G.b) s.heap s.heap [] := va_S.rf
  have hl := lv_entry ([.ref x0, .int x1]) (n := 2) (Nat.le_of_ble_eq_true rfl)
  rw [lg_entry_eq]
  generalize (lg_sl ([.ref x0, .int x1]) ++ List.replicate (2 - (lg_sl ([.ref x0, .int x1])).length) Slot.unset).toArray = ls at hl ⊢
  have hl : lv_has ls 2 [(0, .ref x0), (1, .int x1)] := hl
  exact bX7_slackOfUnder_b0 C0 Y hl9 hx9 S _ _ _ 0 0 h hO hS hl (by decide) (by decide)

def rm_X7_cam : Room := { frames := 7, cells := 7, slots := 133, locals := 191 }
def wX7_cam_b0 (x0 : Nat) (x1 : Int32) (Φ : Hp → Int32 → Prop) (Ψ : Hp → String → Prop) (S : Hp) : Prop := isA S x0 7 ∧ wX7_checkShaft S x0 x1 (fun S1 => isA S1 x0 7 ∧ ∃ a4, S1.FR 450 x0 = some a4 ∧ isA S1 a4 9 ∧ wJx4a65c_size_8abf5 S1 a4 (fun S5 r6 => ((r6 < 8 → isA S5 x0 7 ∧ ∃ a10, S5.FR 450 x0 = some a10 ∧ ∀ a11 S12, a11 ∉ S5.L → S12 = S5.new a11 1 0 → wX1_init S12 a11 x1 (fun S13 => isA S13 a10 9 ∧ wJx4a65c_add_9ea2d S13 a10 a11 (fun S14 r15 => isA S14 x0 7 ∧ ∃ a18, S14.FR 450 x0 = some a18 ∧ isA S14 a18 9 ∧ wJx4a65c_size_8abf5 S14 a18 (fun S19 r20 => Φ S19 (r20 - 1))))) ∧ (¬ (r6 < 8) → Ψ S5 "java/lang/IllegalStateException")))) Ψ
set_option maxHeartbeats 4000000 in
set_option maxRecDepth 100000 in
theorem bX7_cam_b0 {p : Program} {l : Launch} {e : Env} {s : State} {m : MethodId} {args : Array Value} {below : List Frame} {meth : Method} {c : Code} {G : Gw} {x0 : Nat} {x1 : Int32} {Φ : Hp → Int32 → Prop} {Ψ : Hp → String → Prop} (C0 : Mx p s m c cX7_cam 2 args yX7_cam.cls G) (Y : My meth (some .int)) (hl9 : l.stackTraces = false) (hx9 : ∀ x ∈ c.exceptionTable.toList, False)  : ∀ (S : Hp) (H : Heap) (locs : List Loc) (ls : Array Slot) (cells slots : Nat), wX7_cam_b0 x0 x1 Φ Ψ S → Ok G S H → va_S (Ab G.b) s.heap H locs → lv_has ls 2 [(0, .ref x0), (1, .int x1)] → cells + (7) ≤ 7 → slots + (133) ≤ 133 → W p l e rm_X7_cam s m args below meth c H locs cells slots (vx_MQ below (gQ G (PI Φ)) (gX G Ψ) args s rm_X7_cam.cells rm_X7_cam.slots (Ab G.b)) (F0 m 0 ls []) := by
  intro S H locs ls cells slots h hO hS hl hcc hss
  unfold wX7_cam_b0 at h
  refine lv_aload_n C0.1 C0.2.1 dX7_cam_0 rfl (lv_at hl 0 rfl) ?_
  refine lv_iload_n C0.1 C0.2.1 dX7_cam_1 rfl (lv_at hl 1 rfl) ?_
  obtain ⟨i2, h⟩ := h
  refine x_V C0 Y.2 hx9 hO hS (mX7_checkShaft hl9 h) i2 (by decide) rfl rfl tb_563 tb_565 tb_12 tb_74 tb_566 hd_X7_checkShaft rfl ⟨⟨by decide, by decide⟩, by show _ + 1 ≤ 7; omega, by show _ + 6 ≤ 133; omega⟩ hl.1 rfl (Nat.le_of_ble_eq_true rfl) dX7_cam_2 (by show _ + 1 ≤ 7; omega) (by show _ + 6 ≤ 133; omega) (kV (fun S1 H locs h hO hS => ?_))
  change W _ _ _ _ _ _ _ _ _ _ _ _ (_ + 1) (_ + 6) _ _
  refine lv_aload_n C0.1 C0.2.1 dX7_cam_5 rfl (lv_at hl 0 rfl) ?_
  obtain ⟨i3, h⟩ := h
  obtain ⟨a4, ea4, h⟩ := h
  refine g7_2 C0 hO i3 ea4 tb_188 dX7_cam_6 ?_
  obtain ⟨i7, h⟩ := h
  refine c_V C0 hO hS (mJx4a65c_size_8abf5 h) i7 (by decide) rfl rfl tb_261 tb_262 tb_263 tb_77 tb_264 hd_Jx4a65c_size_8abf5 rfl ⟨⟨by decide, by decide⟩, by show _ + 0 ≤ 7; omega, by show _ + 0 ≤ 133; omega⟩ hl.1 rfl (Nat.le_of_ble_eq_true rfl) dX7_cam_9 (kI (fun r6 S5 H locs h hO hS => ?_))
  change W _ _ _ _ _ _ _ _ _ _ _ _ (_ + 0) (_ + 0) _ _
  refine lv_bipush (v := 8) C0.1 C0.2.1 dX7_cam_12 (by decide) ?_
  refine lv_icmp_lt (tgt := 27) C0.1 C0.2.1 dX7_cam_14 (by decide) (fun c8 => ?_) (fun c8 => ?_)
  · have h := h.1 c8
    refine lv_aload_n C0.1 C0.2.1 dX7_cam_27 rfl (lv_at hl 0 rfl) ?_
    obtain ⟨i9, h⟩ := h
    obtain ⟨a10, ea10, h⟩ := h
    refine g7_2 C0 hO i9 ea10 tb_188 dX7_cam_28 ?_
    refine n_1 C0 hO hS tb_411 tb_423 tb_99 (by show _ ≤ 7; omega) (by show _ ≤ 133; omega) dX7_cam_31 (fun a11 H hna11 hO hS => ?_)
    have h := h a11 _ hna11 rfl
    refine lv_dup C0.1 C0.2.1 dX7_cam_34 rfl ?_
    refine lv_iload_n C0.1 C0.2.1 dX7_cam_35 rfl (lv_at hl 1 rfl) ?_
    refine c_I C0 hO hS (mX1_init h) tb_980 tb_981 tb_99 tb_982 rfl hd_X1_init rfl ⟨⟨by decide, by decide⟩, by show _ + 4 ≤ 7; omega, by show _ + 96 ≤ 133; omega⟩ hl.1 rfl (Nat.le_of_ble_eq_true rfl) dX7_cam_36 (kV (fun S13 H locs h hO hS => ?_))
    change W _ _ _ _ _ _ _ _ _ _ _ _ (_ + 4) (_ + 96) _ _
    obtain ⟨i16, h⟩ := h
    refine c_V C0 hO hS (mJx4a65c_add_9ea2d h) i16 (by decide) rfl rfl tb_677 tb_678 tb_679 tb_77 tb_680 hd_Jx4a65c_add_9ea2d rfl ⟨⟨by decide, by decide⟩, by show _ + 1 ≤ 7; omega, by show _ + 24 ≤ 133; omega⟩ hl.1 rfl (Nat.le_of_ble_eq_true rfl) dX7_cam_39 (kI (fun r15 S14 H locs h hO hS => ?_))
    change W _ _ _ _ _ _ _ _ _ _ _ _ (_ + 1) (_ + 24) _ _
    refine lv_pop C0.1 C0.2.1 dX7_cam_42 rfl ?_
    refine lv_aload_n C0.1 C0.2.1 dX7_cam_43 rfl (lv_at hl 0 rfl) ?_
    obtain ⟨i17, h⟩ := h
    obtain ⟨a18, ea18, h⟩ := h
    refine g7_2 C0 hO i17 ea18 tb_188 dX7_cam_44 ?_
    obtain ⟨i21, h⟩ := h
    refine c_V C0 hO hS (mJx4a65c_size_8abf5 h) i21 (by decide) rfl rfl tb_261 tb_262 tb_263 tb_77 tb_264 hd_Jx4a65c_size_8abf5 rfl ⟨⟨by decide, by decide⟩, by show _ + 0 ≤ 7; omega, by show _ + 0 ≤ 133; omega⟩ hl.1 rfl (Nat.le_of_ble_eq_true rfl) dX7_cam_47 (kI (fun r20 S19 H locs h hO hS => ?_))
    change W _ _ _ _ _ _ _ _ _ _ _ _ (_ + 0) (_ + 0) _ _
    refine lv_iconst (v := 1) C0.1 C0.2.1 dX7_cam_50 (by decide) ?_
    refine lv_isub C0.1 C0.2.1 dX7_cam_51 ?_
    refine vx_ret ?_
    exact e_I C0 Y hO hS h (by show _ ≤ 7; omega) (by show _ ≤ 133; omega) dX7_cam_52
  · have h := h.2 c8
    exact t_S (text := "there are 8 cams") (names := xnm) C0 hl9 Y.2 hx9 hO hS xf_IllegalStateException xnm_ok tb_458 tb_85 (by decide +kernel) xat_81 xgd_8100077 hl.1 h dX7_cam_17 dX7_cam_20 dX7_cam_21 dX7_cam_23 dX7_cam_26 (Nat.le_of_ble_eq_true rfl) (Nat.le_of_ble_eq_true rfl) (by show _ ≤ 7; omega) (by show _ ≤ 133; omega) (by show _ ≤ 7; omega) (by show _ ≤ 133; omega)
def wX7_cam (S : Hp) (x0 : Nat) (x1 : Int32) (Φ : Hp → Int32 → Prop) (Ψ : Hp → String → Prop) : Prop := wX7_cam_b0 x0 x1 Φ Ψ S
set_option maxRecDepth 100000 in
theorem mX7_cam {l : Launch} {G : Gw} (hl9 : l.stackTraces = false) {S : Hp} {x0 : Nat} {x1 : Int32} {Φ : Hp → Int32 → Prop} {Ψ : Hp → String → Prop} (h : wX7_cam S x0 x1 Φ Ψ) : gT l yX7_cam cX7_cam 2 (some .int) rm_X7_cam [.ref x0, .int x1] G S (PI Φ) Ψ := by
  unfold gT
  refine vx_ofW (cc := cX7_cam) (maxL := 2) (ret := (some .int)) (by decide) rfl ?_
  intro p e s m args below meth c s₁ B hml hx9 hv
  obtain ⟨rfl, hw⟩ := hv
  obtain ⟨C0, Y, hO⟩ := mx_of B hml hw
  have hS : va_S (Ab G.b) s.heap s.heap [] := va_S.rf
  have hl := lv_entry ([.ref x0, .int x1]) (n := 2) (Nat.le_of_ble_eq_true rfl)
  rw [lg_entry_eq]
  generalize (lg_sl ([.ref x0, .int x1]) ++ List.replicate (2 - (lg_sl ([.ref x0, .int x1])).length) Slot.unset).toArray = ls at hl ⊢
  have hl : lv_has ls 2 [(0, .ref x0), (1, .int x1)] := hl
  exact bX7_cam_b0 C0 Y hl9 hx9 S _ _ _ 0 0 h hO hS hl (by decide) (by decide)

def rm_X7_camAt : Room := { frames := 6, cells := 1, slots := 6, locals := 90 }
def wX7_camAt_b15 (x0 : Nat) (x1 : Int32) (Φ : Hp → Option Nat → Prop) (Ψ : Hp → String → Prop) (S : Hp) : Prop := Ψ S "java/lang/IndexOutOfBoundsException"
set_option maxHeartbeats 4000000 in
set_option maxRecDepth 100000 in
theorem bX7_camAt_b15 {p : Program} {l : Launch} {e : Env} {s : State} {m : MethodId} {args : Array Value} {below : List Frame} {meth : Method} {c : Code} {G : Gw} {x0 : Nat} {x1 : Int32} {Φ : Hp → Option Nat → Prop} {Ψ : Hp → String → Prop} (C0 : Mx p s m c cX7_camAt 2 args yX7_camAt.cls G) (Y : My meth (some (.object "Linkwright$Cam"))) (hl9 : l.stackTraces = false) (hx9 : ∀ x ∈ c.exceptionTable.toList, False)  : ∀ (S : Hp) (H : Heap) (locs : List Loc) (ls : Array Slot) (cells slots : Nat), wX7_camAt_b15 x0 x1 Φ Ψ S → Ok G S H → va_S (Ab G.b) s.heap H locs → lv_has ls 2 [(0, .ref x0), (1, .int x1)] → cells + (1) ≤ 1 → slots + (6) ≤ 6 → W p l e rm_X7_camAt s m args below meth c H locs cells slots (vx_MQ below (gQ G (PR Φ)) (gX G Ψ) args s rm_X7_camAt.cells rm_X7_camAt.slots (Ab G.b)) (F0 m 15 ls []) := by
  intro S H locs ls cells slots h hO hS hl hcc hss
  unfold wX7_camAt_b15 at h
  exact t_W (text := "no such cam") (names := xnm) C0 hl9 Y.2 hx9 hO hS xf_IndexOutOfBoundsException xnm_ok tb_567 tb_86 (by decide +kernel) xat_368 xgd_36800364 hl.1 h dX7_camAt_15 dX7_camAt_18 dX7_camAt_19 dX7_camAt_22 dX7_camAt_25 (Nat.le_of_ble_eq_true rfl) (Nat.le_of_ble_eq_true rfl) (by show _ ≤ 1; omega) (by show _ ≤ 6; omega) (by show _ ≤ 1; omega) (by show _ ≤ 6; omega)
def wX7_camAt_b0 (x0 : Nat) (x1 : Int32) (Φ : Hp → Option Nat → Prop) (Ψ : Hp → String → Prop) (S : Hp) : Prop := ((x1 < 0 → wX7_camAt_b15 x0 x1 Φ Ψ S) ∧ (¬ (x1 < 0) → isA S x0 7 ∧ ∃ a3, S.FR 450 x0 = some a3 ∧ isA S a3 9 ∧ wJx4a65c_size_8abf5 S a3 (fun S4 r5 => ((x1 < r5 → isA S4 x0 7 ∧ ∃ a9, S4.FR 450 x0 = some a9 ∧ isA S4 a9 9 ∧ wJx4a65c_get_915e3 S4 a9 x1 (fun S10 r11 => ∃ a13, r11 = some a13 ∧ isA S10 a13 1 ∧ Φ S10 (some a13))) ∧ (¬ (x1 < r5) → wX7_camAt_b15 x0 x1 Φ Ψ S4)))))
set_option maxHeartbeats 4000000 in
set_option maxRecDepth 100000 in
theorem bX7_camAt_b0 {p : Program} {l : Launch} {e : Env} {s : State} {m : MethodId} {args : Array Value} {below : List Frame} {meth : Method} {c : Code} {G : Gw} {x0 : Nat} {x1 : Int32} {Φ : Hp → Option Nat → Prop} {Ψ : Hp → String → Prop} (C0 : Mx p s m c cX7_camAt 2 args yX7_camAt.cls G) (Y : My meth (some (.object "Linkwright$Cam"))) (hl9 : l.stackTraces = false) (hx9 : ∀ x ∈ c.exceptionTable.toList, False)  : ∀ (S : Hp) (H : Heap) (locs : List Loc) (ls : Array Slot) (cells slots : Nat), wX7_camAt_b0 x0 x1 Φ Ψ S → Ok G S H → va_S (Ab G.b) s.heap H locs → lv_has ls 2 [(0, .ref x0), (1, .int x1)] → cells + (1) ≤ 1 → slots + (6) ≤ 6 → W p l e rm_X7_camAt s m args below meth c H locs cells slots (vx_MQ below (gQ G (PR Φ)) (gX G Ψ) args s rm_X7_camAt.cells rm_X7_camAt.slots (Ab G.b)) (F0 m 0 ls []) := by
  intro S H locs ls cells slots h hO hS hl hcc hss
  unfold wX7_camAt_b0 at h
  refine lv_iload_n C0.1 C0.2.1 dX7_camAt_0 rfl (lv_at hl 1 rfl) ?_
  refine lv_if_lt (tgt := 15) C0.1 C0.2.1 dX7_camAt_1 (by decide) (fun c1 => ?_) (fun c1 => ?_)
  · have h := h.1 c1
    exact bX7_camAt_b15 C0 Y hl9 hx9 _ _ _ _ _ _ h hO hS (lv_sub hl [0, 1] rfl) (by omega) (by omega)
  · have h := h.2 c1
    refine lv_iload_n C0.1 C0.2.1 dX7_camAt_4 rfl (lv_at hl 1 rfl) ?_
    refine lv_aload_n C0.1 C0.2.1 dX7_camAt_5 rfl (lv_at hl 0 rfl) ?_
    obtain ⟨i2, h⟩ := h
    obtain ⟨a3, ea3, h⟩ := h
    refine g7_2 C0 hO i2 ea3 tb_188 dX7_camAt_6 ?_
    obtain ⟨i6, h⟩ := h
    refine c_V C0 hO hS (mJx4a65c_size_8abf5 h) i6 (by decide) rfl rfl tb_261 tb_262 tb_263 tb_77 tb_264 hd_Jx4a65c_size_8abf5 rfl ⟨⟨by decide, by decide⟩, by show _ + 0 ≤ 1; omega, by show _ + 0 ≤ 6; omega⟩ hl.1 rfl (Nat.le_of_ble_eq_true rfl) dX7_camAt_9 (kI (fun r5 S4 H locs h hO hS => ?_))
    change W _ _ _ _ _ _ _ _ _ _ _ _ (_ + 0) (_ + 0) _ _
    refine lv_icmp_lt (tgt := 26) C0.1 C0.2.1 dX7_camAt_12 (by decide) (fun c7 => ?_) (fun c7 => ?_)
    · have h := h.1 c7
      refine lv_aload_n C0.1 C0.2.1 dX7_camAt_26 rfl (lv_at hl 0 rfl) ?_
      obtain ⟨i8, h⟩ := h
      obtain ⟨a9, ea9, h⟩ := h
      refine g7_2 C0 hO i8 ea9 tb_188 dX7_camAt_27 ?_
      refine lv_iload_n C0.1 C0.2.1 dX7_camAt_30 rfl (lv_at hl 1 rfl) ?_
      obtain ⟨i12, h⟩ := h
      refine c_V C0 hO hS (mJx4a65c_get_915e3 h) i12 (by decide) rfl rfl tb_265 tb_266 tb_267 tb_77 tb_268 hd_Jx4a65c_get_915e3 rfl ⟨⟨by decide, by decide⟩, by show _ + 0 ≤ 1; omega, by show _ + 0 ≤ 6; omega⟩ hl.1 rfl (Nat.le_of_ble_eq_true rfl) dX7_camAt_31 (kR (fun r11 S10 H locs h hO hS => ?_))
      change W _ _ _ _ _ _ _ _ _ _ _ _ (_ + 0) (_ + 0) _ _
      obtain ⟨a13, ea13, h⟩ := h
      subst ea13
      change W _ _ _ _ _ _ _ _ _ _ _ _ _ _ _ (F0 _ _ _ (.ref a13 :: _))
      obtain ⟨i14, h⟩ := h
      refine r_castO C0 hO i14 (by decide) rfl tb_411 dX7_camAt_34 ?_
      refine vx_ret ?_
      exact e_R (v := some a13) C0 Y (Or.inl ⟨_, rfl⟩) hO hS h (by show _ ≤ 1; omega) (by show _ ≤ 6; omega) dX7_camAt_37
    · have h := h.2 c7
      exact bX7_camAt_b15 C0 Y hl9 hx9 _ _ _ _ _ _ h hO hS (lv_sub hl [0, 1] rfl) (by omega) (by omega)
def wX7_camAt (S : Hp) (x0 : Nat) (x1 : Int32) (Φ : Hp → Option Nat → Prop) (Ψ : Hp → String → Prop) : Prop := wX7_camAt_b0 x0 x1 Φ Ψ S
set_option maxRecDepth 100000 in
theorem mX7_camAt {l : Launch} {G : Gw} (hl9 : l.stackTraces = false) {S : Hp} {x0 : Nat} {x1 : Int32} {Φ : Hp → Option Nat → Prop} {Ψ : Hp → String → Prop} (h : wX7_camAt S x0 x1 Φ Ψ) : gT l yX7_camAt cX7_camAt 2 (some (.object "Linkwright$Cam")) rm_X7_camAt [.ref x0, .int x1] G S (PR Φ) Ψ := by
  unfold gT
  refine vx_ofW (cc := cX7_camAt) (maxL := 2) (ret := (some (.object "Linkwright$Cam"))) (by decide) rfl ?_
  intro p e s m args below meth c s₁ B hml hx9 hv
  obtain ⟨rfl, hw⟩ := hv
  obtain ⟨C0, Y, hO⟩ := mx_of B hml hw
  have hS : va_S (Ab G.b) s.heap s.heap [] := va_S.rf
  have hl := lv_entry ([.ref x0, .int x1]) (n := 2) (Nat.le_of_ble_eq_true rfl)
  rw [lg_entry_eq]
  generalize (lg_sl ([.ref x0, .int x1]) ++ List.replicate (2 - (lg_sl ([.ref x0, .int x1])).length) Slot.unset).toArray = ls at hl ⊢
  have hl : lv_has ls 2 [(0, .ref x0), (1, .int x1)] := hl
  exact bX7_camAt_b0 C0 Y hl9 hx9 S _ _ _ 0 0 h hO hS hl (by decide) (by decide)

def rm_X7_checkLaw : Room := { frames := 6, cells := 1, slots := 6, locals := 90 }
def wX7_checkLaw_b0 (x0 : Int32) (Φ : Hp → Prop) (Ψ : Hp → String → Prop) (S : Hp) : Prop := ((x0 = 117 → Φ S) ∧ (¬ (x0 = 117) → ((x0 = 112 → Φ S) ∧ (¬ (x0 = 112) → Ψ S "java/lang/IllegalArgumentException"))))
set_option maxHeartbeats 4000000 in
set_option maxRecDepth 100000 in
theorem bX7_checkLaw_b0 {p : Program} {l : Launch} {e : Env} {s : State} {m : MethodId} {args : Array Value} {below : List Frame} {meth : Method} {c : Code} {G : Gw} {x0 : Int32} {Φ : Hp → Prop} {Ψ : Hp → String → Prop} (C0 : Mx p s m c cX7_checkLaw 1 args yX7_checkLaw.cls G) (Y : My meth none) (hl9 : l.stackTraces = false) (hx9 : ∀ x ∈ c.exceptionTable.toList, False)  : ∀ (S : Hp) (H : Heap) (locs : List Loc) (ls : Array Slot) (cells slots : Nat), wX7_checkLaw_b0 x0 Φ Ψ S → Ok G S H → va_S (Ab G.b) s.heap H locs → lv_has ls 1 [(0, .int x0)] → cells + (1) ≤ 1 → slots + (6) ≤ 6 → W p l e rm_X7_checkLaw s m args below meth c H locs cells slots (vx_MQ below (gQ G (PV Φ)) (gX G Ψ) args s rm_X7_checkLaw.cells rm_X7_checkLaw.slots (Ab G.b)) (F0 m 0 ls []) := by
  intro S H locs ls cells slots h hO hS hl hcc hss
  unfold wX7_checkLaw_b0 at h
  refine lv_iload_n C0.1 C0.2.1 dX7_checkLaw_0 rfl (lv_at hl 0 rfl) ?_
  refine lv_bipush (v := 117) C0.1 C0.2.1 dX7_checkLaw_1 (by decide) ?_
  refine lv_icmp_eq (tgt := 23) C0.1 C0.2.1 dX7_checkLaw_3 (by decide) (fun c1 => ?_) (fun c1 => ?_)
  · have h := h.1 c1
    refine vx_ret ?_
    exact e_V C0 Y hO hS h (by show _ ≤ 1; omega) (by show _ ≤ 6; omega) dX7_checkLaw_23
  · have h := h.2 c1
    refine lv_iload_n C0.1 C0.2.1 dX7_checkLaw_6 rfl (lv_at hl 0 rfl) ?_
    refine lv_bipush (v := 112) C0.1 C0.2.1 dX7_checkLaw_7 (by decide) ?_
    refine lv_icmp_eq (tgt := 23) C0.1 C0.2.1 dX7_checkLaw_9 (by decide) (fun c2 => ?_) (fun c2 => ?_)
    · have h := h.1 c2
      refine vx_ret ?_
      exact e_V C0 Y hO hS h (by show _ ≤ 1; omega) (by show _ ≤ 6; omega) dX7_checkLaw_23
    · have h := h.2 c2
      exact t_W (text := "no such law") (names := xnm) C0 hl9 Y.2 hx9 hO hS xf_IllegalArgumentException xnm_ok tb_586 tb_89 (by decide +kernel) xat_95 xgd_9500091 hl.1 h dX7_checkLaw_12 dX7_checkLaw_15 dX7_checkLaw_16 dX7_checkLaw_19 dX7_checkLaw_22 (Nat.le_of_ble_eq_true rfl) (Nat.le_of_ble_eq_true rfl) (by show _ ≤ 1; omega) (by show _ ≤ 6; omega) (by show _ ≤ 1; omega) (by show _ ≤ 6; omega)
def wX7_checkLaw (S : Hp) (x0 : Int32) (Φ : Hp → Prop) (Ψ : Hp → String → Prop) : Prop := wX7_checkLaw_b0 x0 Φ Ψ S
set_option maxRecDepth 100000 in
theorem mX7_checkLaw {l : Launch} {G : Gw} (hl9 : l.stackTraces = false) {S : Hp} {x0 : Int32} {Φ : Hp → Prop} {Ψ : Hp → String → Prop} (h : wX7_checkLaw S x0 Φ Ψ) : gT l yX7_checkLaw cX7_checkLaw 1 none rm_X7_checkLaw [.int x0] G S (PV Φ) Ψ := by
  unfold gT
  refine vx_ofW (cc := cX7_checkLaw) (maxL := 1) (ret := none) (by decide) rfl ?_
  intro p e s m args below meth c s₁ B hml hx9 hv
  obtain ⟨rfl, hw⟩ := hv
  obtain ⟨C0, Y, hO⟩ := mx_of B hml hw
  have hS : va_S (Ab G.b) s.heap s.heap [] := va_S.rf
  have hl := lv_entry ([.int x0]) (n := 1) (Nat.le_of_ble_eq_true rfl)
  rw [lg_entry_eq]
  generalize (lg_sl ([.int x0]) ++ List.replicate (1 - (lg_sl ([.int x0])).length) Slot.unset).toArray = ls at hl ⊢
  have hl : lv_has ls 1 [(0, .int x0)] := hl
  exact bX7_checkLaw_b0 C0 Y hl9 hx9 S _ _ _ 0 0 h hO hS hl (by decide) (by decide)

def rm_X7_segment : Room := { frames := 7, cells := 5, slots := 30, locals := 112 }
def wX7_segment_b0 (x0 : Nat) (x1 : Int32) (x2 : Int32) (x3 : Int32) (x4 : Int32) (Φ : Hp → Int32 → Prop) (Ψ : Hp → String → Prop) (S : Hp) : Prop := isA S x0 7 ∧ wX7_camAt S x0 x1 (fun S1 r2 => ∃ a4, r2 = some a4 ∧ wX7_checkRange S1 x2 1 24 (fun S5 => wX7_checkRange S5 x3 0 99 (fun S6 => wX7_checkLaw S6 x4 (fun S7 => isA S7 a4 1 ∧ ((((S7.FI 70 a4) + x2) ≤ 24 → wX1_append S7 a4 x2 x3 x4 (fun S10 => isA S10 a4 1 ∧ Φ S10 (S10.FI 70 a4))) ∧ (¬ (((S7.FI 70 a4) + x2) ≤ 24) → Ψ S7 "java/lang/UnsupportedOperationException"))) Ψ) Ψ) Ψ) Ψ
set_option maxHeartbeats 4000000 in
set_option maxRecDepth 100000 in
theorem bX7_segment_b0 {p : Program} {l : Launch} {e : Env} {s : State} {m : MethodId} {args : Array Value} {below : List Frame} {meth : Method} {c : Code} {G : Gw} {x0 : Nat} {x1 : Int32} {x2 : Int32} {x3 : Int32} {x4 : Int32} {Φ : Hp → Int32 → Prop} {Ψ : Hp → String → Prop} (C0 : Mx p s m c cX7_segment 6 args yX7_segment.cls G) (Y : My meth (some .int)) (hl9 : l.stackTraces = false) (hx9 : ∀ x ∈ c.exceptionTable.toList, False)  : ∀ (S : Hp) (H : Heap) (locs : List Loc) (ls : Array Slot) (cells slots : Nat), wX7_segment_b0 x0 x1 x2 x3 x4 Φ Ψ S → Ok G S H → va_S (Ab G.b) s.heap H locs → lv_has ls 6 [(0, .ref x0), (1, .int x1), (2, .int x2), (3, .int x3), (4, .int x4)] → cells + (5) ≤ 5 → slots + (30) ≤ 30 → W p l e rm_X7_segment s m args below meth c H locs cells slots (vx_MQ below (gQ G (PI Φ)) (gX G Ψ) args s rm_X7_segment.cells rm_X7_segment.slots (Ab G.b)) (F0 m 0 ls []) := by
  intro S H locs ls cells slots h hO hS hl hcc hss
  unfold wX7_segment_b0 at h
  refine lv_aload_n C0.1 C0.2.1 dX7_segment_0 rfl (lv_at hl 0 rfl) ?_
  refine lv_iload_n C0.1 C0.2.1 dX7_segment_1 rfl (lv_at hl 1 rfl) ?_
  obtain ⟨i3, h⟩ := h
  refine x_V C0 Y.2 hx9 hO hS (mX7_camAt hl9 h) i3 (by decide) rfl rfl tb_1019 tb_1021 tb_30 tb_74 tb_1022 hd_X7_camAt rfl ⟨⟨by decide, by decide⟩, by show _ + 1 ≤ 5; omega, by show _ + 6 ≤ 30; omega⟩ hl.1 rfl (Nat.le_of_ble_eq_true rfl) dX7_segment_2 (by show _ + 1 ≤ 5; omega) (by show _ + 6 ≤ 30; omega) (kR (fun r2 S1 H locs h hO hS => ?_))
  change W _ _ _ _ _ _ _ _ _ _ _ _ (_ + 1) (_ + 6) _ _
  obtain ⟨a4, ea4, h⟩ := h
  subst ea4
  change W _ _ _ _ _ _ _ _ _ _ _ _ _ _ _ (F0 _ _ _ (.ref a4 :: _))
  refine lv_astore C0.1 C0.2.1 dX7_segment_5 hl (by decide) rfl (fun ls hl => ?_)
  refine lv_iload_n C0.1 C0.2.1 dX7_segment_7 rfl (lv_at hl 3 rfl) ?_
  refine lv_iconst (v := 1) C0.1 C0.2.1 dX7_segment_8 (by decide) ?_
  refine lv_bipush (v := 24) C0.1 C0.2.1 dX7_segment_9 (by decide) ?_
  refine x_S C0 Y.2 hx9 hO hS (mX7_checkRange hl9 h) tb_758 tb_759 tb_74 tb_760 hd_X7_checkRange rfl ⟨⟨by decide, by decide⟩, by show _ + 1 ≤ 5; omega, by show _ + 6 ≤ 30; omega⟩ hl.1 rfl (Nat.le_of_ble_eq_true rfl) dX7_segment_11 (by show _ + 1 ≤ 5; omega) (by show _ + 6 ≤ 30; omega) (kV (fun S5 H locs h hO hS => ?_))
  change W _ _ _ _ _ _ _ _ _ _ _ _ (_ + 1) (_ + 6) _ _
  refine lv_iload_n C0.1 C0.2.1 dX7_segment_14 rfl (lv_at hl 4 rfl) ?_
  refine lv_iconst (v := 0) C0.1 C0.2.1 dX7_segment_15 (by decide) ?_
  refine lv_bipush (v := 99) C0.1 C0.2.1 dX7_segment_16 (by decide) ?_
  refine x_S C0 Y.2 hx9 hO hS (mX7_checkRange hl9 h) tb_758 tb_759 tb_74 tb_760 hd_X7_checkRange rfl ⟨⟨by decide, by decide⟩, by show _ + 1 ≤ 5; omega, by show _ + 6 ≤ 30; omega⟩ hl.1 rfl (Nat.le_of_ble_eq_true rfl) dX7_segment_18 (by show _ + 1 ≤ 5; omega) (by show _ + 6 ≤ 30; omega) (kV (fun S6 H locs h hO hS => ?_))
  change W _ _ _ _ _ _ _ _ _ _ _ _ (_ + 1) (_ + 6) _ _
  refine lv_iload C0.1 C0.2.1 dX7_segment_21 (lv_at hl 5 rfl) ?_
  refine x_S C0 Y.2 hx9 hO hS (mX7_checkLaw hl9 h) tb_1024 tb_1025 tb_74 tb_1026 hd_X7_checkLaw rfl ⟨⟨by decide, by decide⟩, by show _ + 1 ≤ 5; omega, by show _ + 6 ≤ 30; omega⟩ hl.1 rfl (Nat.le_of_ble_eq_true rfl) dX7_segment_23 (by show _ + 1 ≤ 5; omega) (by show _ + 6 ≤ 30; omega) (kV (fun S7 H locs h hO hS => ?_))
  change W _ _ _ _ _ _ _ _ _ _ _ _ (_ + 1) (_ + 6) _ _
  refine lv_aload C0.1 C0.2.1 dX7_segment_26 (lv_at hl 0 rfl) ?_
  obtain ⟨i8, h⟩ := h
  refine g1_6 C0 hO i8 tb_995 dX7_segment_28 ?_
  refine lv_iload_n C0.1 C0.2.1 dX7_segment_31 rfl (lv_at hl 3 rfl) ?_
  refine lv_iadd C0.1 C0.2.1 dX7_segment_32 ?_
  refine lv_bipush (v := 24) C0.1 C0.2.1 dX7_segment_33 (by decide) ?_
  refine lv_icmp_le (tgt := 48) C0.1 C0.2.1 dX7_segment_35 (by decide) (fun c9 => ?_) (fun c9 => ?_)
  · have h := h.1 c9
    refine lv_aload C0.1 C0.2.1 dX7_segment_48 (lv_at hl 0 rfl) ?_
    refine lv_iload_n C0.1 C0.2.1 dX7_segment_50 rfl (lv_at hl 3 rfl) ?_
    refine lv_iload_n C0.1 C0.2.1 dX7_segment_51 rfl (lv_at hl 4 rfl) ?_
    refine lv_iload C0.1 C0.2.1 dX7_segment_52 (lv_at hl 5 rfl) ?_
    refine c_V C0 hO hS (mX1_append h) i8 (by decide) rfl rfl tb_1029 tb_1030 tb_1031 tb_99 tb_1032 hd_X1_append rfl ⟨⟨by decide, by decide⟩, by show _ + 0 ≤ 5; omega, by show _ + 0 ≤ 30; omega⟩ hl.1 rfl (Nat.le_of_ble_eq_true rfl) dX7_segment_54 (kV (fun S10 H locs h hO hS => ?_))
    change W _ _ _ _ _ _ _ _ _ _ _ _ (_ + 0) (_ + 0) _ _
    refine lv_aload C0.1 C0.2.1 dX7_segment_57 (lv_at hl 0 rfl) ?_
    obtain ⟨i11, h⟩ := h
    refine g1_6 C0 hO i11 tb_995 dX7_segment_59 ?_
    refine vx_ret ?_
    exact e_I C0 Y hO hS h (by show _ ≤ 5; omega) (by show _ ≤ 30; omega) dX7_segment_62
  · have h := h.2 c9
    exact t_S (text := "there would be more than 24 parts") (names := xnm) C0 hl9 Y.2 hx9 hO hS xf_UnsupportedOperationException xnm_ok tb_602 tb_90 (by decide +kernel) xat_100 xgd_10000096 hl.1 h dX7_segment_38 dX7_segment_41 dX7_segment_42 dX7_segment_44 dX7_segment_47 (Nat.le_of_ble_eq_true rfl) (Nat.le_of_ble_eq_true rfl) (by show _ ≤ 5; omega) (by show _ ≤ 30; omega) (by show _ ≤ 5; omega) (by show _ ≤ 30; omega)
def wX7_segment (S : Hp) (x0 : Nat) (x1 : Int32) (x2 : Int32) (x3 : Int32) (x4 : Int32) (Φ : Hp → Int32 → Prop) (Ψ : Hp → String → Prop) : Prop := wX7_segment_b0 x0 x1 x2 x3 x4 Φ Ψ S
set_option maxRecDepth 100000 in
theorem mX7_segment {l : Launch} {G : Gw} (hl9 : l.stackTraces = false) {S : Hp} {x0 : Nat} {x1 : Int32} {x2 : Int32} {x3 : Int32} {x4 : Int32} {Φ : Hp → Int32 → Prop} {Ψ : Hp → String → Prop} (h : wX7_segment S x0 x1 x2 x3 x4 Φ Ψ) : gT l yX7_segment cX7_segment 6 (some .int) rm_X7_segment [.ref x0, .int x1, .int x2, .int x3, .int x4] G S (PI Φ) Ψ := by
  unfold gT
  refine vx_ofW (cc := cX7_segment) (maxL := 6) (ret := (some .int)) (by decide) rfl ?_
  intro p e s m args below meth c s₁ B hml hx9 hv
  obtain ⟨rfl, hw⟩ := hv
  obtain ⟨C0, Y, hO⟩ := mx_of B hml hw
  have hS : va_S (Ab G.b) s.heap s.heap [] := va_S.rf
  have hl := lv_entry ([.ref x0, .int x1, .int x2, .int x3, .int x4]) (n := 6) (Nat.le_of_ble_eq_true rfl)
  rw [lg_entry_eq]
  generalize (lg_sl ([.ref x0, .int x1, .int x2, .int x3, .int x4]) ++ List.replicate (6 - (lg_sl ([.ref x0, .int x1, .int x2, .int x3, .int x4])).length) Slot.unset).toArray = ls at hl ⊢
  have hl : lv_has ls 6 [(0, .ref x0), (1, .int x1), (2, .int x2), (3, .int x3), (4, .int x4)] := hl
  exact bX7_segment_b0 C0 Y hl9 hx9 S _ _ _ 0 0 h hO hS hl (by decide) (by decide)

def rm_X7_clear : Room := { frames := 7, cells := 1, slots := 6, locals := 111 }
def wX7_clear_b0 (x0 : Nat) (x1 : Int32) (Φ : Hp → Int32 → Prop) (Ψ : Hp → String → Prop) (S : Hp) : Prop := isA S x0 7 ∧ wX7_camAt S x0 x1 (fun S1 r2 => ∃ a4, r2 = some a4 ∧ isA S1 a4 1 ∧ wX1_empty S1 a4 (fun S6 => Φ S6 (S1.FI 69 a4))) Ψ
set_option maxHeartbeats 4000000 in
set_option maxRecDepth 100000 in
theorem bX7_clear_b0 {p : Program} {l : Launch} {e : Env} {s : State} {m : MethodId} {args : Array Value} {below : List Frame} {meth : Method} {c : Code} {G : Gw} {x0 : Nat} {x1 : Int32} {Φ : Hp → Int32 → Prop} {Ψ : Hp → String → Prop} (C0 : Mx p s m c cX7_clear 4 args yX7_clear.cls G) (Y : My meth (some .int)) (hl9 : l.stackTraces = false) (hx9 : ∀ x ∈ c.exceptionTable.toList, False)  : ∀ (S : Hp) (H : Heap) (locs : List Loc) (ls : Array Slot) (cells slots : Nat), wX7_clear_b0 x0 x1 Φ Ψ S → Ok G S H → va_S (Ab G.b) s.heap H locs → lv_has ls 4 [(0, .ref x0), (1, .int x1)] → cells + (1) ≤ 1 → slots + (6) ≤ 6 → W p l e rm_X7_clear s m args below meth c H locs cells slots (vx_MQ below (gQ G (PI Φ)) (gX G Ψ) args s rm_X7_clear.cells rm_X7_clear.slots (Ab G.b)) (F0 m 0 ls []) := by
  intro S H locs ls cells slots h hO hS hl hcc hss
  unfold wX7_clear_b0 at h
  refine lv_aload_n C0.1 C0.2.1 dX7_clear_0 rfl (lv_at hl 0 rfl) ?_
  refine lv_iload_n C0.1 C0.2.1 dX7_clear_1 rfl (lv_at hl 1 rfl) ?_
  obtain ⟨i3, h⟩ := h
  refine x_V C0 Y.2 hx9 hO hS (mX7_camAt hl9 h) i3 (by decide) rfl rfl tb_1019 tb_1021 tb_30 tb_74 tb_1022 hd_X7_camAt rfl ⟨⟨by decide, by decide⟩, by show _ + 1 ≤ 1; omega, by show _ + 6 ≤ 6; omega⟩ hl.1 rfl (Nat.le_of_ble_eq_true rfl) dX7_clear_2 (by show _ + 1 ≤ 1; omega) (by show _ + 6 ≤ 6; omega) (kR (fun r2 S1 H locs h hO hS => ?_))
  change W _ _ _ _ _ _ _ _ _ _ _ _ (_ + 1) (_ + 6) _ _
  obtain ⟨a4, ea4, h⟩ := h
  subst ea4
  change W _ _ _ _ _ _ _ _ _ _ _ _ _ _ _ (F0 _ _ _ (.ref a4 :: _))
  refine lv_astore_n C0.1 C0.2.1 dX7_clear_5 rfl hl (by decide) rfl (fun ls hl => ?_)
  refine lv_aload_n C0.1 C0.2.1 dX7_clear_6 rfl (lv_at hl 0 rfl) ?_
  obtain ⟨i5, h⟩ := h
  refine g1_5 C0 hO i5 tb_993 dX7_clear_7 ?_
  refine lv_istore_n C0.1 C0.2.1 dX7_clear_10 rfl hl (by decide) rfl (fun ls hl => ?_)
  refine lv_aload_n C0.1 C0.2.1 dX7_clear_11 rfl (lv_at hl 1 rfl) ?_
  refine c_V C0 hO hS (mX1_empty h) i5 (by decide) rfl rfl tb_1040 tb_1041 tb_1042 tb_99 tb_1043 hd_X1_empty rfl ⟨⟨by decide, by decide⟩, by show _ + 0 ≤ 1; omega, by show _ + 0 ≤ 6; omega⟩ hl.1 rfl (Nat.le_of_ble_eq_true rfl) dX7_clear_12 (kV (fun S6 H locs h hO hS => ?_))
  change W _ _ _ _ _ _ _ _ _ _ _ _ (_ + 0) (_ + 0) _ _
  refine lv_iload_n C0.1 C0.2.1 dX7_clear_15 rfl (lv_at hl 0 rfl) ?_
  refine vx_ret ?_
  exact e_I C0 Y hO hS h (by show _ ≤ 1; omega) (by show _ ≤ 6; omega) dX7_clear_16
def wX7_clear (S : Hp) (x0 : Nat) (x1 : Int32) (Φ : Hp → Int32 → Prop) (Ψ : Hp → String → Prop) : Prop := wX7_clear_b0 x0 x1 Φ Ψ S
set_option maxRecDepth 100000 in
theorem mX7_clear {l : Launch} {G : Gw} (hl9 : l.stackTraces = false) {S : Hp} {x0 : Nat} {x1 : Int32} {Φ : Hp → Int32 → Prop} {Ψ : Hp → String → Prop} (h : wX7_clear S x0 x1 Φ Ψ) : gT l yX7_clear cX7_clear 4 (some .int) rm_X7_clear [.ref x0, .int x1] G S (PI Φ) Ψ := by
  unfold gT
  refine vx_ofW (cc := cX7_clear) (maxL := 4) (ret := (some .int)) (by decide) rfl ?_
  intro p e s m args below meth c s₁ B hml hx9 hv
  obtain ⟨rfl, hw⟩ := hv
  obtain ⟨C0, Y, hO⟩ := mx_of B hml hw
  have hS : va_S (Ab G.b) s.heap s.heap [] := va_S.rf
  have hl := lv_entry ([.ref x0, .int x1]) (n := 4) (Nat.le_of_ble_eq_true rfl)
  rw [lg_entry_eq]
  generalize (lg_sl ([.ref x0, .int x1]) ++ List.replicate (4 - (lg_sl ([.ref x0, .int x1])).length) Slot.unset).toArray = ls at hl ⊢
  have hl : lv_has ls 4 [(0, .ref x0), (1, .int x1)] := hl
  exact bX7_clear_b0 C0 Y hl9 hx9 S _ _ _ 0 0 h hO hS hl (by decide) (by decide)

def rm_X7_wholeCamAt : Room := { frames := 7, cells := 2, slots := 12, locals := 111 }
def wX7_wholeCamAt_b0 (x0 : Nat) (x1 : Int32) (Φ : Hp → Option Nat → Prop) (Ψ : Hp → String → Prop) (S : Hp) : Prop := isA S x0 7 ∧ wX7_camAt S x0 x1 (fun S1 r2 => ∃ a4, r2 = some a4 ∧ isA S1 a4 1 ∧ wX1_isWhole S1 a4 (fun S5 r6 => ((¬ r6 = 0 → Φ S5 (some a4)) ∧ (r6 = 0 → Ψ S5 "java/lang/UnsupportedOperationException")))) Ψ
set_option maxHeartbeats 4000000 in
set_option maxRecDepth 100000 in
theorem bX7_wholeCamAt_b0 {p : Program} {l : Launch} {e : Env} {s : State} {m : MethodId} {args : Array Value} {below : List Frame} {meth : Method} {c : Code} {G : Gw} {x0 : Nat} {x1 : Int32} {Φ : Hp → Option Nat → Prop} {Ψ : Hp → String → Prop} (C0 : Mx p s m c cX7_wholeCamAt 3 args yX7_wholeCamAt.cls G) (Y : My meth (some (.object "Linkwright$Cam"))) (hl9 : l.stackTraces = false) (hx9 : ∀ x ∈ c.exceptionTable.toList, False)  : ∀ (S : Hp) (H : Heap) (locs : List Loc) (ls : Array Slot) (cells slots : Nat), wX7_wholeCamAt_b0 x0 x1 Φ Ψ S → Ok G S H → va_S (Ab G.b) s.heap H locs → lv_has ls 3 [(0, .ref x0), (1, .int x1)] → cells + (2) ≤ 2 → slots + (12) ≤ 12 → W p l e rm_X7_wholeCamAt s m args below meth c H locs cells slots (vx_MQ below (gQ G (PR Φ)) (gX G Ψ) args s rm_X7_wholeCamAt.cells rm_X7_wholeCamAt.slots (Ab G.b)) (F0 m 0 ls []) := by
  intro S H locs ls cells slots h hO hS hl hcc hss
  unfold wX7_wholeCamAt_b0 at h
  refine lv_aload_n C0.1 C0.2.1 dX7_wholeCamAt_0 rfl (lv_at hl 0 rfl) ?_
  refine lv_iload_n C0.1 C0.2.1 dX7_wholeCamAt_1 rfl (lv_at hl 1 rfl) ?_
  obtain ⟨i3, h⟩ := h
  refine x_V C0 Y.2 hx9 hO hS (mX7_camAt hl9 h) i3 (by decide) rfl rfl tb_1019 tb_1021 tb_30 tb_74 tb_1022 hd_X7_camAt rfl ⟨⟨by decide, by decide⟩, by show _ + 1 ≤ 2; omega, by show _ + 6 ≤ 12; omega⟩ hl.1 rfl (Nat.le_of_ble_eq_true rfl) dX7_wholeCamAt_2 (by show _ + 1 ≤ 2; omega) (by show _ + 6 ≤ 12; omega) (kR (fun r2 S1 H locs h hO hS => ?_))
  change W _ _ _ _ _ _ _ _ _ _ _ _ (_ + 1) (_ + 6) _ _
  obtain ⟨a4, ea4, h⟩ := h
  subst ea4
  change W _ _ _ _ _ _ _ _ _ _ _ _ _ _ _ (F0 _ _ _ (.ref a4 :: _))
  refine lv_astore_n C0.1 C0.2.1 dX7_wholeCamAt_5 rfl hl (by decide) rfl (fun ls hl => ?_)
  refine lv_aload_n C0.1 C0.2.1 dX7_wholeCamAt_6 rfl (lv_at hl 0 rfl) ?_
  obtain ⟨i7, h⟩ := h
  refine c_V C0 hO hS (mX1_isWhole h) i7 (by decide) rfl rfl tb_412 tb_413 tb_414 tb_99 tb_415 hd_X1_isWhole rfl ⟨⟨by decide, by decide⟩, by show _ + 0 ≤ 2; omega, by show _ + 0 ≤ 12; omega⟩ hl.1 rfl (Nat.le_of_ble_eq_true rfl) dX7_wholeCamAt_7 (kI (fun r6 S5 H locs h hO hS => ?_))
  change W _ _ _ _ _ _ _ _ _ _ _ _ (_ + 0) (_ + 0) _ _
  refine lv_if_ne (tgt := 24) C0.1 C0.2.1 dX7_wholeCamAt_10 (by decide) (fun c8 => ?_) (fun c8 => ?_)
  · have h := h.1 c8
    refine lv_aload_n C0.1 C0.2.1 dX7_wholeCamAt_24 rfl (lv_at hl 0 rfl) ?_
    refine vx_ret ?_
    exact e_R (v := some a4) C0 Y (Or.inl ⟨_, rfl⟩) hO hS h (by show _ ≤ 2; omega) (by show _ ≤ 12; omega) dX7_wholeCamAt_25
  · have h := h.2 c8
    exact t_W (text := "the cam is not whole") (names := xnm) C0 hl9 Y.2 hx9 hO hS xf_UnsupportedOperationException xnm_ok tb_602 tb_90 (by decide +kernel) xat_100 xgd_10000096 hl.1 h dX7_wholeCamAt_13 dX7_wholeCamAt_16 dX7_wholeCamAt_17 dX7_wholeCamAt_20 dX7_wholeCamAt_23 (Nat.le_of_ble_eq_true rfl) (Nat.le_of_ble_eq_true rfl) (by show _ ≤ 2; omega) (by show _ ≤ 12; omega) (by show _ ≤ 2; omega) (by show _ ≤ 12; omega)
def wX7_wholeCamAt (S : Hp) (x0 : Nat) (x1 : Int32) (Φ : Hp → Option Nat → Prop) (Ψ : Hp → String → Prop) : Prop := wX7_wholeCamAt_b0 x0 x1 Φ Ψ S
set_option maxRecDepth 100000 in
theorem mX7_wholeCamAt {l : Launch} {G : Gw} (hl9 : l.stackTraces = false) {S : Hp} {x0 : Nat} {x1 : Int32} {Φ : Hp → Option Nat → Prop} {Ψ : Hp → String → Prop} (h : wX7_wholeCamAt S x0 x1 Φ Ψ) : gT l yX7_wholeCamAt cX7_wholeCamAt 3 (some (.object "Linkwright$Cam")) rm_X7_wholeCamAt [.ref x0, .int x1] G S (PR Φ) Ψ := by
  unfold gT
  refine vx_ofW (cc := cX7_wholeCamAt) (maxL := 3) (ret := (some (.object "Linkwright$Cam"))) (by decide) rfl ?_
  intro p e s m args below meth c s₁ B hml hx9 hv
  obtain ⟨rfl, hw⟩ := hv
  obtain ⟨C0, Y, hO⟩ := mx_of B hml hw
  have hS : va_S (Ab G.b) s.heap s.heap [] := va_S.rf
  have hl := lv_entry ([.ref x0, .int x1]) (n := 3) (Nat.le_of_ble_eq_true rfl)
  rw [lg_entry_eq]
  generalize (lg_sl ([.ref x0, .int x1]) ++ List.replicate (3 - (lg_sl ([.ref x0, .int x1])).length) Slot.unset).toArray = ls at hl ⊢
  have hl : lv_has ls 3 [(0, .ref x0), (1, .int x1)] := hl
  exact bX7_wholeCamAt_b0 C0 Y hl9 hx9 S _ _ _ 0 0 h hO hS hl (by decide) (by decide)

def rm_X7_heightNow : Room := { frames := 4, cells := 1, slots := 2, locals := 113 }
def wX7_heightNow_b0 (x0 : Nat) (x1 : Nat) (Φ : Hp → Option Nat → Prop) (S : Hp) : Prop := isA S x0 7 ∧ ∃ a2, S.FR 458 x0 = some a2 ∧ isA S a2 6 ∧ ∃ a4, S.FR 384 a2 = some a4 ∧ isA S x1 1 ∧ isA S a4 4 ∧ wX4_wholeTimes S a4 (S.FI 64 x1) 24 (fun S6 r7 => wJ9_floorMod_f86c9 S6 r7 24 (fun S9 r10 => isA S9 x1 1 ∧ wX1_heightAt S9 x1 r10.toInt32 (fun S11 r12 => ∃ a14, r12 = some a14 ∧ Φ S11 (some a14))))
set_option maxHeartbeats 4000000 in
set_option maxRecDepth 100000 in
theorem bX7_heightNow_b0 {p : Program} {l : Launch} {e : Env} {s : State} {m : MethodId} {args : Array Value} {below : List Frame} {meth : Method} {c : Code} {G : Gw} {x0 : Nat} {x1 : Nat} {Φ : Hp → Option Nat → Prop} (C0 : Mx p s m c cX7_heightNow 2 args yX7_heightNow.cls G) (Y : My meth (some (.object "Linkwright$Fraction")))  : ∀ (S : Hp) (H : Heap) (locs : List Loc) (ls : Array Slot) (cells slots : Nat), wX7_heightNow_b0 x0 x1 Φ S → Ok G S H → va_S (Ab G.b) s.heap H locs → lv_has ls 2 [(0, .ref x0), (1, .ref x1)] → cells + (1) ≤ 1 → slots + (2) ≤ 2 → W p l e rm_X7_heightNow s m args below meth c H locs cells slots (MQ below (gQ G (PR Φ)) args s rm_X7_heightNow.cells rm_X7_heightNow.slots (Ab G.b)) (F0 m 0 ls []) := by
  intro S H locs ls cells slots h hO hS hl hcc hss
  unfold wX7_heightNow_b0 at h
  refine lv_aload_n C0.1 C0.2.1 dX7_heightNow_0 rfl (lv_at hl 1 rfl) ?_
  refine lv_aload_n C0.1 C0.2.1 dX7_heightNow_1 rfl (lv_at hl 0 rfl) ?_
  obtain ⟨i1, h⟩ := h
  obtain ⟨a2, ea2, h⟩ := h
  refine g7_10 C0 hO i1 ea2 tb_196 dX7_heightNow_2 ?_
  obtain ⟨i3, h⟩ := h
  obtain ⟨a4, ea4, h⟩ := h
  refine g6_0 C0 hO i3 ea4 tb_165 dX7_heightNow_5 ?_
  refine lv_aload_n C0.1 C0.2.1 dX7_heightNow_8 rfl (lv_at hl 1 rfl) ?_
  obtain ⟨i5, h⟩ := h
  refine g1_0 C0 hO i5 tb_986 dX7_heightNow_9 ?_
  refine lv_ldc2 (v := 24) C0.1 C0.2.1 C0.2.2.2.1 (C0.2.2.2.2.1 _ tb_390) dX7_heightNow_12 ?_
  obtain ⟨i8, h⟩ := h
  refine c_V C0 hO hS (mX4_wholeTimes h) i8 (by decide) rfl rfl tb_824 tb_347 tb_348 tb_78 tb_349 hd_X4_wholeTimes rfl ⟨⟨by decide, by decide⟩, by show _ + 0 ≤ 1; omega, by show _ + 0 ≤ 2; omega⟩ hl.1 rfl (Nat.le_of_ble_eq_true rfl) dX7_heightNow_15 (kJ (fun r7 S6 H locs h hO hS => ?_))
  change W _ _ _ _ _ _ _ _ _ _ _ _ (_ + 0) (_ + 0) _ _
  refine lv_ldc2 (v := 24) C0.1 C0.2.1 C0.2.2.2.1 (C0.2.2.2.2.1 _ tb_390) dX7_heightNow_18 ?_
  refine c_S C0 hO hS (mJ9_floorMod_f86c9 h) tb_1060 tb_351 tb_94 tb_352 hd_J9_floorMod_f86c9 rfl ⟨⟨by decide, by decide⟩, by show _ + 0 ≤ 1; omega, by show _ + 0 ≤ 2; omega⟩ hl.1 rfl (Nat.le_of_ble_eq_true rfl) dX7_heightNow_21 (kJ (fun r10 S9 H locs h hO hS => ?_))
  change W _ _ _ _ _ _ _ _ _ _ _ _ (_ + 0) (_ + 0) _ _
  refine lv_l2i C0.1 C0.2.1 dX7_heightNow_24 rfl ?_
  obtain ⟨i13, h⟩ := h
  refine c_V C0 hO hS (mX1_heightAt h) i13 (by decide) rfl rfl tb_416 tb_417 tb_418 tb_99 tb_419 hd_X1_heightAt rfl ⟨⟨by decide, by decide⟩, by show _ + 1 ≤ 1; omega, by show _ + 2 ≤ 2; omega⟩ hl.1 rfl (Nat.le_of_ble_eq_true rfl) dX7_heightNow_25 (kR (fun r12 S11 H locs h hO hS => ?_))
  change W _ _ _ _ _ _ _ _ _ _ _ _ (_ + 1) (_ + 2) _ _
  obtain ⟨a14, ea14, h⟩ := h
  subst ea14
  change W _ _ _ _ _ _ _ _ _ _ _ _ _ _ _ (F0 _ _ _ (.ref a14 :: _))
  exact e_R (v := some a14) C0 Y (Or.inl ⟨_, rfl⟩) hO hS h (by show _ ≤ 1; omega) (by show _ ≤ 2; omega) dX7_heightNow_28
def wX7_heightNow (S : Hp) (x0 : Nat) (x1 : Nat) (Φ : Hp → Option Nat → Prop) : Prop := wX7_heightNow_b0 x0 x1 Φ S
set_option maxRecDepth 100000 in
theorem mX7_heightNow {l : Launch} {G : Gw} {S : Hp} {x0 : Nat} {x1 : Nat} {Φ : Hp → Option Nat → Prop} (h : wX7_heightNow S x0 x1 Φ) : gM l yX7_heightNow cX7_heightNow 2 (some (.object "Linkwright$Fraction")) rm_X7_heightNow [.ref x0, .ref x1] G S (PR Φ) := by
  unfold gM
  refine Met.ofW (cc := cX7_heightNow) (maxL := 2) (ret := (some (.object "Linkwright$Fraction"))) (by decide) rfl ?_
  intro p e s m args below meth c s₁ B hml hv
  obtain ⟨rfl, hw⟩ := hv
  obtain ⟨C0, Y, hO⟩ := mx_of B hml hw
  have hS : va_S (Ab G.b) s.heap s.heap [] := va_S.rf
  have hl := lv_entry ([.ref x0, .ref x1]) (n := 2) (Nat.le_of_ble_eq_true rfl)
  rw [lg_entry_eq]
  generalize (lg_sl ([.ref x0, .ref x1]) ++ List.replicate (2 - (lg_sl ([.ref x0, .ref x1])).length) Slot.unset).toArray = ls at hl ⊢
  have hl : lv_has ls 2 [(0, .ref x0), (1, .ref x1)] := hl
  exact bX7_heightNow_b0 C0 Y S _ _ _ 0 0 h hO hS hl (by decide) (by decide)

def rm_X7_heightOver : Room := { frames := 8, cells := 3, slots := 14, locals := 134 }
def wX7_heightOver_b0 (x0 : Nat) (x1 : Int32) (Φ : Hp → Int64 → Prop) (Ψ : Hp → String → Prop) (S : Hp) : Prop := isA S x0 7 ∧ wX7_wholeCamAt S x0 x1 (fun S1 r2 => ∃ a4, r2 = some a4 ∧ isA S1 x0 7 ∧ wX7_heightNow S1 x0 a4 (fun S5 r6 => ∃ a8, r6 = some a8 ∧ isA S5 a8 3 ∧ Φ S5 (S5.FJ 192 a8))) Ψ
set_option maxHeartbeats 4000000 in
set_option maxRecDepth 100000 in
theorem bX7_heightOver_b0 {p : Program} {l : Launch} {e : Env} {s : State} {m : MethodId} {args : Array Value} {below : List Frame} {meth : Method} {c : Code} {G : Gw} {x0 : Nat} {x1 : Int32} {Φ : Hp → Int64 → Prop} {Ψ : Hp → String → Prop} (C0 : Mx p s m c cX7_heightOver 2 args yX7_heightOver.cls G) (Y : My meth (some .long)) (hl9 : l.stackTraces = false) (hx9 : ∀ x ∈ c.exceptionTable.toList, False)  : ∀ (S : Hp) (H : Heap) (locs : List Loc) (ls : Array Slot) (cells slots : Nat), wX7_heightOver_b0 x0 x1 Φ Ψ S → Ok G S H → va_S (Ab G.b) s.heap H locs → lv_has ls 2 [(0, .ref x0), (1, .int x1)] → cells + (3) ≤ 3 → slots + (14) ≤ 14 → W p l e rm_X7_heightOver s m args below meth c H locs cells slots (vx_MQ below (gQ G (PJ Φ)) (gX G Ψ) args s rm_X7_heightOver.cells rm_X7_heightOver.slots (Ab G.b)) (F0 m 0 ls []) := by
  intro S H locs ls cells slots h hO hS hl hcc hss
  unfold wX7_heightOver_b0 at h
  refine lv_aload_n C0.1 C0.2.1 dX7_heightOver_0 rfl (lv_at hl 0 rfl) ?_
  refine lv_aload_n C0.1 C0.2.1 dX7_heightOver_1 rfl (lv_at hl 0 rfl) ?_
  refine lv_iload_n C0.1 C0.2.1 dX7_heightOver_2 rfl (lv_at hl 1 rfl) ?_
  obtain ⟨i3, h⟩ := h
  refine x_V C0 Y.2 hx9 hO hS (mX7_wholeCamAt hl9 h) i3 (by decide) rfl rfl tb_1051 tb_1053 tb_31 tb_74 tb_1054 hd_X7_wholeCamAt rfl ⟨⟨by decide, by decide⟩, by show _ + 2 ≤ 3; omega, by show _ + 12 ≤ 14; omega⟩ hl.1 rfl (Nat.le_of_ble_eq_true rfl) dX7_heightOver_3 (by show _ + 2 ≤ 3; omega) (by show _ + 12 ≤ 14; omega) (kR (fun r2 S1 H locs h hO hS => ?_))
  change W _ _ _ _ _ _ _ _ _ _ _ _ (_ + 2) (_ + 12) _ _
  obtain ⟨a4, ea4, h⟩ := h
  subst ea4
  change W _ _ _ _ _ _ _ _ _ _ _ _ _ _ _ (F0 _ _ _ (.ref a4 :: _))
  obtain ⟨i7, h⟩ := h
  refine c_V C0 hO hS (mX7_heightNow h) i7 (by decide) rfl rfl tb_1056 tb_1058 tb_32 tb_74 tb_1059 hd_X7_heightNow rfl ⟨⟨by decide, by decide⟩, by show _ + 1 ≤ 3; omega, by show _ + 2 ≤ 14; omega⟩ hl.1 rfl (Nat.le_of_ble_eq_true rfl) dX7_heightOver_6 (kR (fun r6 S5 H locs h hO hS => ?_))
  change W _ _ _ _ _ _ _ _ _ _ _ _ (_ + 1) (_ + 2) _ _
  obtain ⟨a8, ea8, h⟩ := h
  subst ea8
  change W _ _ _ _ _ _ _ _ _ _ _ _ _ _ _ (F0 _ _ _ (.ref a8 :: _))
  obtain ⟨i9, h⟩ := h
  refine g3_0 C0 hO i9 tb_437 dX7_heightOver_9 ?_
  refine vx_ret ?_
  exact e_J C0 Y hO hS h (by show _ ≤ 3; omega) (by show _ ≤ 14; omega) dX7_heightOver_12
def wX7_heightOver (S : Hp) (x0 : Nat) (x1 : Int32) (Φ : Hp → Int64 → Prop) (Ψ : Hp → String → Prop) : Prop := wX7_heightOver_b0 x0 x1 Φ Ψ S
set_option maxRecDepth 100000 in
theorem mX7_heightOver {l : Launch} {G : Gw} (hl9 : l.stackTraces = false) {S : Hp} {x0 : Nat} {x1 : Int32} {Φ : Hp → Int64 → Prop} {Ψ : Hp → String → Prop} (h : wX7_heightOver S x0 x1 Φ Ψ) : gT l yX7_heightOver cX7_heightOver 2 (some .long) rm_X7_heightOver [.ref x0, .int x1] G S (PJ Φ) Ψ := by
  unfold gT
  refine vx_ofW (cc := cX7_heightOver) (maxL := 2) (ret := (some .long)) (by decide) rfl ?_
  intro p e s m args below meth c s₁ B hml hx9 hv
  obtain ⟨rfl, hw⟩ := hv
  obtain ⟨C0, Y, hO⟩ := mx_of B hml hw
  have hS : va_S (Ab G.b) s.heap s.heap [] := va_S.rf
  have hl := lv_entry ([.ref x0, .int x1]) (n := 2) (Nat.le_of_ble_eq_true rfl)
  rw [lg_entry_eq]
  generalize (lg_sl ([.ref x0, .int x1]) ++ List.replicate (2 - (lg_sl ([.ref x0, .int x1])).length) Slot.unset).toArray = ls at hl ⊢
  have hl : lv_has ls 2 [(0, .ref x0), (1, .int x1)] := hl
  exact bX7_heightOver_b0 C0 Y hl9 hx9 S _ _ _ 0 0 h hO hS hl (by decide) (by decide)

def rm_X7_heightUnder : Room := { frames := 8, cells := 3, slots := 14, locals := 134 }
def wX7_heightUnder_b0 (x0 : Nat) (x1 : Int32) (Φ : Hp → Int64 → Prop) (Ψ : Hp → String → Prop) (S : Hp) : Prop := isA S x0 7 ∧ wX7_wholeCamAt S x0 x1 (fun S1 r2 => ∃ a4, r2 = some a4 ∧ isA S1 x0 7 ∧ wX7_heightNow S1 x0 a4 (fun S5 r6 => ∃ a8, r6 = some a8 ∧ isA S5 a8 3 ∧ Φ S5 (S5.FJ 193 a8))) Ψ
set_option maxHeartbeats 4000000 in
set_option maxRecDepth 100000 in
theorem bX7_heightUnder_b0 {p : Program} {l : Launch} {e : Env} {s : State} {m : MethodId} {args : Array Value} {below : List Frame} {meth : Method} {c : Code} {G : Gw} {x0 : Nat} {x1 : Int32} {Φ : Hp → Int64 → Prop} {Ψ : Hp → String → Prop} (C0 : Mx p s m c cX7_heightUnder 2 args yX7_heightUnder.cls G) (Y : My meth (some .long)) (hl9 : l.stackTraces = false) (hx9 : ∀ x ∈ c.exceptionTable.toList, False)  : ∀ (S : Hp) (H : Heap) (locs : List Loc) (ls : Array Slot) (cells slots : Nat), wX7_heightUnder_b0 x0 x1 Φ Ψ S → Ok G S H → va_S (Ab G.b) s.heap H locs → lv_has ls 2 [(0, .ref x0), (1, .int x1)] → cells + (3) ≤ 3 → slots + (14) ≤ 14 → W p l e rm_X7_heightUnder s m args below meth c H locs cells slots (vx_MQ below (gQ G (PJ Φ)) (gX G Ψ) args s rm_X7_heightUnder.cells rm_X7_heightUnder.slots (Ab G.b)) (F0 m 0 ls []) := by
  intro S H locs ls cells slots h hO hS hl hcc hss
  unfold wX7_heightUnder_b0 at h
  refine lv_aload_n C0.1 C0.2.1 dX7_heightUnder_0 rfl (lv_at hl 0 rfl) ?_
  refine lv_aload_n C0.1 C0.2.1 dX7_heightUnder_1 rfl (lv_at hl 0 rfl) ?_
  refine lv_iload_n C0.1 C0.2.1 dX7_heightUnder_2 rfl (lv_at hl 1 rfl) ?_
  obtain ⟨i3, h⟩ := h
  refine x_V C0 Y.2 hx9 hO hS (mX7_wholeCamAt hl9 h) i3 (by decide) rfl rfl tb_1051 tb_1053 tb_31 tb_74 tb_1054 hd_X7_wholeCamAt rfl ⟨⟨by decide, by decide⟩, by show _ + 2 ≤ 3; omega, by show _ + 12 ≤ 14; omega⟩ hl.1 rfl (Nat.le_of_ble_eq_true rfl) dX7_heightUnder_3 (by show _ + 2 ≤ 3; omega) (by show _ + 12 ≤ 14; omega) (kR (fun r2 S1 H locs h hO hS => ?_))
  change W _ _ _ _ _ _ _ _ _ _ _ _ (_ + 2) (_ + 12) _ _
  obtain ⟨a4, ea4, h⟩ := h
  subst ea4
  change W _ _ _ _ _ _ _ _ _ _ _ _ _ _ _ (F0 _ _ _ (.ref a4 :: _))
  obtain ⟨i7, h⟩ := h
  refine c_V C0 hO hS (mX7_heightNow h) i7 (by decide) rfl rfl tb_1056 tb_1058 tb_32 tb_74 tb_1059 hd_X7_heightNow rfl ⟨⟨by decide, by decide⟩, by show _ + 1 ≤ 3; omega, by show _ + 2 ≤ 14; omega⟩ hl.1 rfl (Nat.le_of_ble_eq_true rfl) dX7_heightUnder_6 (kR (fun r6 S5 H locs h hO hS => ?_))
  change W _ _ _ _ _ _ _ _ _ _ _ _ (_ + 1) (_ + 2) _ _
  obtain ⟨a8, ea8, h⟩ := h
  subst ea8
  change W _ _ _ _ _ _ _ _ _ _ _ _ _ _ _ (F0 _ _ _ (.ref a8 :: _))
  obtain ⟨i9, h⟩ := h
  refine g3_1 C0 hO i9 tb_439 dX7_heightUnder_9 ?_
  refine vx_ret ?_
  exact e_J C0 Y hO hS h (by show _ ≤ 3; omega) (by show _ ≤ 14; omega) dX7_heightUnder_12
def wX7_heightUnder (S : Hp) (x0 : Nat) (x1 : Int32) (Φ : Hp → Int64 → Prop) (Ψ : Hp → String → Prop) : Prop := wX7_heightUnder_b0 x0 x1 Φ Ψ S
set_option maxRecDepth 100000 in
theorem mX7_heightUnder {l : Launch} {G : Gw} (hl9 : l.stackTraces = false) {S : Hp} {x0 : Nat} {x1 : Int32} {Φ : Hp → Int64 → Prop} {Ψ : Hp → String → Prop} (h : wX7_heightUnder S x0 x1 Φ Ψ) : gT l yX7_heightUnder cX7_heightUnder 2 (some .long) rm_X7_heightUnder [.ref x0, .int x1] G S (PJ Φ) Ψ := by
  unfold gT
  refine vx_ofW (cc := cX7_heightUnder) (maxL := 2) (ret := (some .long)) (by decide) rfl ?_
  intro p e s m args below meth c s₁ B hml hx9 hv
  obtain ⟨rfl, hw⟩ := hv
  obtain ⟨C0, Y, hO⟩ := mx_of B hml hw
  have hS : va_S (Ab G.b) s.heap s.heap [] := va_S.rf
  have hl := lv_entry ([.ref x0, .int x1]) (n := 2) (Nat.le_of_ble_eq_true rfl)
  rw [lg_entry_eq]
  generalize (lg_sl ([.ref x0, .int x1]) ++ List.replicate (2 - (lg_sl ([.ref x0, .int x1])).length) Slot.unset).toArray = ls at hl ⊢
  have hl : lv_has ls 2 [(0, .ref x0), (1, .int x1)] := hl
  exact bX7_heightUnder_b0 C0 Y hl9 hx9 S _ _ _ 0 0 h hO hS hl (by decide) (by decide)
