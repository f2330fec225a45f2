def rm_X8_heightOver : Room := { frames := 5, cells := 0, slots := 0, locals := 134 }
def wX8_heightOver_b0 (x0 : Nat) (x1 : Int32) (Φ : Hp → Int64 → Prop) (S : Hp) : Prop := isA S x0 8 ∧ wX8_height S x0 x1 1 (fun S1 r2 => Φ S1 r2)
set_option maxHeartbeats 4000000 in
set_option maxRecDepth 100000 in
theorem bX8_heightOver_b0 {p : Program} {l : Launch} {e : Env} {s : State} {m : MethodId} {args : Array Value} {below : List Frame} {meth : Method} {c : Code} {G : Gw} {x0 : Nat} {x1 : Int32} {Φ : Hp → Int64 → Prop} (C0 : Mx p s m c cX8_heightOver 2 args yX8_heightOver.cls G) (Y : My meth (some .long))  : ∀ (S : Hp) (H : Heap) (locs : List Loc) (ls : Array Slot), wX8_heightOver_b0 x0 x1 Φ S → Ok G S H → va_S (Ab G.b) s.heap H locs → lv_has ls 2 [(0, .ref x0), (1, .int x1)] → W p l e rm_X8_heightOver s m args below meth c H locs 0 0 (MQ below (gQ G (PJ Φ)) args s rm_X8_heightOver.cells rm_X8_heightOver.slots (Ab G.b)) (F0 m 0 ls []) := by
  intro S H locs ls h hO hS hl
  unfold wX8_heightOver_b0 at h
  refine lv_aload_n C0.1 C0.2.1 dX8_heightOver_0 rfl (lv_at hl 0 rfl) ?_
  refine lv_iload_n C0.1 C0.2.1 dX8_heightOver_1 rfl (lv_at hl 1 rfl) ?_
  refine lv_iconst (v := 1) C0.1 C0.2.1 dX8_heightOver_2 (by decide) ?_
  obtain ⟨i3, h⟩ := h
  refine c_V C0 hO hS (mX8_height h) i3 (by decide) rfl rfl tb_1662 tb_1664 tb_62 tb_81 tb_1665 hd_X8_height rfl ⟨⟨by decide, by decide⟩, by decide, by decide⟩ hl.1 rfl (Nat.le_of_ble_eq_true rfl) dX8_heightOver_3 (kJ (fun r2 S1 H locs h hO hS => ?_))
  exact e_J C0 Y hO hS h (Nat.le_refl _) (Nat.le_refl _) dX8_heightOver_6
def wX8_heightOver (S : Hp) (x0 : Nat) (x1 : Int32) (Φ : Hp → Int64 → Prop) : Prop := wX8_heightOver_b0 x0 x1 Φ S
set_option maxRecDepth 100000 in
theorem mX8_heightOver {l : Launch} {G : Gw} {S : Hp} {x0 : Nat} {x1 : Int32} {Φ : Hp → Int64 → Prop} (h : wX8_heightOver S x0 x1 Φ) : gM l yX8_heightOver cX8_heightOver 2 (some .long) rm_X8_heightOver [.ref x0, .int x1] G S (PJ Φ) := by
  unfold gM
  refine Met.ofW (cc := cX8_heightOver) (maxL := 2) (ret := (some .long)) (by decide) rfl ?_
  intro p e s m args below meth c s₁ B hml hv
  obtain ⟨rfl, hw⟩ := hv
  obtain ⟨C0, Y, hO⟩ := mx_of B hml hw
  have hS : va_S (Ab G.b) s.heap s.heap [] := va_S.rf
  have hl := lv_entry ([.ref x0, .int x1]) (n := 2) (Nat.le_of_ble_eq_true rfl)
  rw [lg_entry_eq]
  generalize (lg_sl ([.ref x0, .int x1]) ++ List.replicate (2 - (lg_sl ([.ref x0, .int x1])).length) Slot.unset).toArray = ls at hl ⊢
  have hl : lv_has ls 2 [(0, .ref x0), (1, .int x1)] := hl
  exact bX8_heightOver_b0 C0 Y S _ _ _ h hO hS hl

def rm_X8_heightUnder : Room := { frames := 5, cells := 0, slots := 0, locals := 134 }
def wX8_heightUnder_b0 (x0 : Nat) (x1 : Int32) (Φ : Hp → Int64 → Prop) (S : Hp) : Prop := isA S x0 8 ∧ wX8_height S x0 x1 0 (fun S1 r2 => Φ S1 r2)
set_option maxHeartbeats 4000000 in
set_option maxRecDepth 100000 in
theorem bX8_heightUnder_b0 {p : Program} {l : Launch} {e : Env} {s : State} {m : MethodId} {args : Array Value} {below : List Frame} {meth : Method} {c : Code} {G : Gw} {x0 : Nat} {x1 : Int32} {Φ : Hp → Int64 → Prop} (C0 : Mx p s m c cX8_heightUnder 2 args yX8_heightUnder.cls G) (Y : My meth (some .long))  : ∀ (S : Hp) (H : Heap) (locs : List Loc) (ls : Array Slot), wX8_heightUnder_b0 x0 x1 Φ S → Ok G S H → va_S (Ab G.b) s.heap H locs → lv_has ls 2 [(0, .ref x0), (1, .int x1)] → W p l e rm_X8_heightUnder s m args below meth c H locs 0 0 (MQ below (gQ G (PJ Φ)) args s rm_X8_heightUnder.cells rm_X8_heightUnder.slots (Ab G.b)) (F0 m 0 ls []) := by
  intro S H locs ls h hO hS hl
  unfold wX8_heightUnder_b0 at h
  refine lv_aload_n C0.1 C0.2.1 dX8_heightUnder_0 rfl (lv_at hl 0 rfl) ?_
  refine lv_iload_n C0.1 C0.2.1 dX8_heightUnder_1 rfl (lv_at hl 1 rfl) ?_
  refine lv_iconst (v := 0) C0.1 C0.2.1 dX8_heightUnder_2 (by decide) ?_
  obtain ⟨i3, h⟩ := h
  refine c_V C0 hO hS (mX8_height h) i3 (by decide) rfl rfl tb_1662 tb_1664 tb_62 tb_81 tb_1665 hd_X8_height rfl ⟨⟨by decide, by decide⟩, by decide, by decide⟩ hl.1 rfl (Nat.le_of_ble_eq_true rfl) dX8_heightUnder_3 (kJ (fun r2 S1 H locs h hO hS => ?_))
  exact e_J C0 Y hO hS h (Nat.le_refl _) (Nat.le_refl _) dX8_heightUnder_6
def wX8_heightUnder (S : Hp) (x0 : Nat) (x1 : Int32) (Φ : Hp → Int64 → Prop) : Prop := wX8_heightUnder_b0 x0 x1 Φ S
set_option maxRecDepth 100000 in
theorem mX8_heightUnder {l : Launch} {G : Gw} {S : Hp} {x0 : Nat} {x1 : Int32} {Φ : Hp → Int64 → Prop} (h : wX8_heightUnder S x0 x1 Φ) : gM l yX8_heightUnder cX8_heightUnder 2 (some .long) rm_X8_heightUnder [.ref x0, .int x1] G S (PJ Φ) := by
  unfold gM
  refine Met.ofW (cc := cX8_heightUnder) (maxL := 2) (ret := (some .long)) (by decide) rfl ?_
  intro p e s m args below meth c s₁ B hml hv
  obtain ⟨rfl, hw⟩ := hv
  obtain ⟨C0, Y, hO⟩ := mx_of B hml hw
  have hS : va_S (Ab G.b) s.heap s.heap [] := va_S.rf
  have hl := lv_entry ([.ref x0, .int x1]) (n := 2) (Nat.le_of_ble_eq_true rfl)
  rw [lg_entry_eq]
  generalize (lg_sl ([.ref x0, .int x1]) ++ List.replicate (2 - (lg_sl ([.ref x0, .int x1])).length) Slot.unset).toArray = ls at hl ⊢
  have hl : lv_has ls 2 [(0, .ref x0), (1, .int x1)] := hl
  exact bX8_heightUnder_b0 C0 Y S _ _ _ h hO hS hl

def rm_X8_steep : Room := { frames := 3, cells := 0, slots := 0, locals := 70 }
def wX8_steep_b130 (x0 : Nat) (x1 : Int32) (x2 : Int32) (Φ : Hp → Int64 → Prop) (k18 : Hp → Int64 → Int64 → Int32 → Prop) (S : Hp) (v3 : Int64) (v7 : Int32) (z0 : Int64) : Prop := k18 S v3 z0 (v7 + 1)
set_option maxHeartbeats 4000000 in
set_option maxRecDepth 100000 in
theorem bX8_steep_b130 {p : Program} {l : Launch} {e : Env} {s : State} {m : MethodId} {args : Array Value} {below : List Frame} {meth : Method} {c : Code} {G : Gw} {x0 : Nat} {x1 : Int32} {x2 : Int32} {Φ : Hp → Int64 → Prop} (C0 : Mx p s m c cX8_steep 13 args yX8_steep.cls G) (Y : My meth (some .long)) {k18 : Hp → Int64 → Int64 → Int32 → Prop} (hk18 : ∀ (S : Hp) (v3 : Int64) (v5 : Int64) (v7 : Int32) (H : Heap) (locs : List Loc) (ls : Array Slot), k18 S v3 v5 v7 → Ok G S H → va_S (Ab G.b) s.heap H locs → lv_has ls 13 [(0, .ref x0), (1, .int x1), (2, .int x2), (3, .long v3), (5, .long v5), (7, .int v7)] → W p l e rm_X8_steep s m args below meth c H locs 0 0 (MQ below (gQ G (PJ Φ)) args s rm_X8_steep.cells rm_X8_steep.slots (Ab G.b)) (F0 m 18 ls [])) : ∀ (S : Hp) (v3 : Int64) (v7 : Int32) (z0 : Int64) (H : Heap) (locs : List Loc) (ls : Array Slot), wX8_steep_b130 x0 x1 x2 Φ k18 S v3 v7 z0 → Ok G S H → va_S (Ab G.b) s.heap H locs → lv_has ls 13 [(0, .ref x0), (1, .int x1), (2, .int x2), (3, .long v3), (7, .int v7)] → W p l e rm_X8_steep s m args below meth c H locs 0 0 (MQ below (gQ G (PJ Φ)) args s rm_X8_steep.cells rm_X8_steep.slots (Ab G.b)) (F0 m 130 ls [.long z0]) := by
  intro S v3 v7 z0 H locs ls h hO hS hl
  unfold wX8_steep_b130 at h
  refine lv_lstore C0.1 C0.2.1 dX8_steep_130 hl (by decide) rfl (fun ls hl => ?_)
  refine lv_iinc (v := _ + 1) C0.1 C0.2.1 dX8_steep_132 hl (k := 5) rfl rfl (by decide) rfl (fun ls hl => ?_)
  refine lv_goto (tgt := 18) C0.1 C0.2.1 dX8_steep_135 (by decide) ?_
  exact hk18 _ _ _ _ _ _ _ h hO hS (lv_sub hl [2, 3, 4, 5, 1, 0] rfl)
def wX8_steep_b117 (x0 : Nat) (x1 : Int32) (x2 : Int32) (Φ : Hp → Int64 → Prop) (k18 : Hp → Int64 → Int64 → Int32 → Prop) (S : Hp) (v5 : Int64) (v7 : Int32) (v10 : Int64) (v12 : Int32) (z0 : Int64) : Prop := ((v12 = 0 → wX8_steep_b130 x0 x1 x2 Φ k18 S z0 v7 v5) ∧ (¬ (v12 = 0) → wX8_steep_b130 x0 x1 x2 Φ k18 S z0 v7 v10))
set_option maxHeartbeats 4000000 in
set_option maxRecDepth 100000 in
theorem bX8_steep_b117 {p : Program} {l : Launch} {e : Env} {s : State} {m : MethodId} {args : Array Value} {below : List Frame} {meth : Method} {c : Code} {G : Gw} {x0 : Nat} {x1 : Int32} {x2 : Int32} {Φ : Hp → Int64 → Prop} (C0 : Mx p s m c cX8_steep 13 args yX8_steep.cls G) (Y : My meth (some .long)) {k18 : Hp → Int64 → Int64 → Int32 → Prop} (hk18 : ∀ (S : Hp) (v3 : Int64) (v5 : Int64) (v7 : Int32) (H : Heap) (locs : List Loc) (ls : Array Slot), k18 S v3 v5 v7 → Ok G S H → va_S (Ab G.b) s.heap H locs → lv_has ls 13 [(0, .ref x0), (1, .int x1), (2, .int x2), (3, .long v3), (5, .long v5), (7, .int v7)] → W p l e rm_X8_steep s m args below meth c H locs 0 0 (MQ below (gQ G (PJ Φ)) args s rm_X8_steep.cells rm_X8_steep.slots (Ab G.b)) (F0 m 18 ls [])) : ∀ (S : Hp) (v5 : Int64) (v7 : Int32) (v10 : Int64) (v12 : Int32) (z0 : Int64) (H : Heap) (locs : List Loc) (ls : Array Slot), wX8_steep_b117 x0 x1 x2 Φ k18 S v5 v7 v10 v12 z0 → Ok G S H → va_S (Ab G.b) s.heap H locs → lv_has ls 13 [(0, .ref x0), (1, .int x1), (2, .int x2), (5, .long v5), (7, .int v7), (10, .long v10), (12, .int v12)] → W p l e rm_X8_steep s m args below meth c H locs 0 0 (MQ below (gQ G (PJ Φ)) args s rm_X8_steep.cells rm_X8_steep.slots (Ab G.b)) (F0 m 117 ls [.long z0]) := by
  intro S v5 v7 v10 v12 z0 H locs ls h hO hS hl
  unfold wX8_steep_b117 at h
  refine lv_lstore_n C0.1 C0.2.1 dX8_steep_117 rfl hl (by decide) rfl (fun ls hl => ?_)
  refine lv_iload C0.1 C0.2.1 dX8_steep_118 (lv_at hl 7 rfl) ?_
  refine lv_if_eq (tgt := 128) C0.1 C0.2.1 dX8_steep_120 (by decide) (fun c1 => ?_) (fun c1 => ?_)
  · have h := h.1 c1
    refine lv_lload C0.1 C0.2.1 dX8_steep_128 (lv_at hl 4 rfl) ?_
    exact bX8_steep_b130 C0 Y hk18 _ _ _ _ _ _ _ h hO hS (lv_sub hl [1, 2, 3, 0, 5] rfl)
  · have h := h.2 c1
    refine lv_lload C0.1 C0.2.1 dX8_steep_123 (lv_at hl 6 rfl) ?_
    refine lv_goto (tgt := 130) C0.1 C0.2.1 dX8_steep_125 (by decide) ?_
    exact bX8_steep_b130 C0 Y hk18 _ _ _ _ _ _ _ h hO hS (lv_sub hl [1, 2, 3, 0, 5] rfl)
def wX8_steep_b104 (x0 : Nat) (x1 : Int32) (x2 : Int32) (Φ : Hp → Int64 → Prop) (k18 : Hp → Int64 → Int64 → Int32 → Prop) (S : Hp) (v3 : Int64) (v5 : Int64) (v7 : Int32) (v8 : Int64) (v10 : Int64) (z0 : Int32) : Prop := ((z0 = 0 → wX8_steep_b117 x0 x1 x2 Φ k18 S v5 v7 v10 z0 v3) ∧ (¬ (z0 = 0) → wX8_steep_b117 x0 x1 x2 Φ k18 S v5 v7 v10 z0 v8))
set_option maxHeartbeats 4000000 in
set_option maxRecDepth 100000 in
theorem bX8_steep_b104 {p : Program} {l : Launch} {e : Env} {s : State} {m : MethodId} {args : Array Value} {below : List Frame} {meth : Method} {c : Code} {G : Gw} {x0 : Nat} {x1 : Int32} {x2 : Int32} {Φ : Hp → Int64 → Prop} (C0 : Mx p s m c cX8_steep 13 args yX8_steep.cls G) (Y : My meth (some .long)) {k18 : Hp → Int64 → Int64 → Int32 → Prop} (hk18 : ∀ (S : Hp) (v3 : Int64) (v5 : Int64) (v7 : Int32) (H : Heap) (locs : List Loc) (ls : Array Slot), k18 S v3 v5 v7 → Ok G S H → va_S (Ab G.b) s.heap H locs → lv_has ls 13 [(0, .ref x0), (1, .int x1), (2, .int x2), (3, .long v3), (5, .long v5), (7, .int v7)] → W p l e rm_X8_steep s m args below meth c H locs 0 0 (MQ below (gQ G (PJ Φ)) args s rm_X8_steep.cells rm_X8_steep.slots (Ab G.b)) (F0 m 18 ls [])) : ∀ (S : Hp) (v3 : Int64) (v5 : Int64) (v7 : Int32) (v8 : Int64) (v10 : Int64) (z0 : Int32) (H : Heap) (locs : List Loc) (ls : Array Slot), wX8_steep_b104 x0 x1 x2 Φ k18 S v3 v5 v7 v8 v10 z0 → Ok G S H → va_S (Ab G.b) s.heap H locs → lv_has ls 13 [(0, .ref x0), (1, .int x1), (2, .int x2), (3, .long v3), (5, .long v5), (7, .int v7), (8, .long v8), (10, .long v10)] → W p l e rm_X8_steep s m args below meth c H locs 0 0 (MQ below (gQ G (PJ Φ)) args s rm_X8_steep.cells rm_X8_steep.slots (Ab G.b)) (F0 m 104 ls [.int z0]) := by
  intro S v3 v5 v7 v8 v10 z0 H locs ls h hO hS hl
  unfold wX8_steep_b104 at h
  refine lv_istore C0.1 C0.2.1 dX8_steep_104 hl (by decide) rfl (fun ls hl => ?_)
  refine lv_iload C0.1 C0.2.1 dX8_steep_106 (lv_at hl 0 rfl) ?_
  refine lv_if_eq (tgt := 116) C0.1 C0.2.1 dX8_steep_108 (by decide) (fun c1 => ?_) (fun c1 => ?_)
  · have h := h.1 c1
    refine lv_lload_n C0.1 C0.2.1 dX8_steep_116 rfl (lv_at hl 4 rfl) ?_
    exact bX8_steep_b117 C0 Y hk18 _ _ _ _ _ _ _ _ _ h hO hS (lv_sub hl [1, 2, 3, 5, 6, 8, 0] rfl)
  · have h := h.2 c1
    refine lv_lload C0.1 C0.2.1 dX8_steep_111 (lv_at hl 7 rfl) ?_
    refine lv_goto (tgt := 117) C0.1 C0.2.1 dX8_steep_113 (by decide) ?_
    exact bX8_steep_b117 C0 Y hk18 _ _ _ _ _ _ _ _ _ h hO hS (lv_sub hl [1, 2, 3, 5, 6, 8, 0] rfl)
def wX8_steep_b71 (x0 : Nat) (x1 : Int32) (x2 : Int32) (Φ : Hp → Int64 → Prop) (k18 : Hp → Int64 → Int64 → Int32 → Prop) (S : Hp) (v3 : Int64) (v5 : Int64) (v7 : Int32) (z0 : Int64) (z1 : Int64) : Prop := isA S x0 8 ∧ ∃ a2, S.FR 536 x0 = some a2 ∧ isA S a2 26 ∧ vp_in x1 (S.N a2) ∧ ∃ a5, S.AR a2 x1.toNatClampNeg = some a5 ∧ isA S a5 21 ∧ vp_in v7 (S.N a5) ∧ (((lg_cmp ((z0 * z1) * v5) (v3 * ((S.AI a5 v7.toNatClampNeg).toInt64))) ≤ 0 → wX8_steep_b104 x0 x1 x2 Φ k18 S v3 v5 v7 (z0 * z1) ((S.AI a5 v7.toNatClampNeg).toInt64) 0) ∧ (¬ ((lg_cmp ((z0 * z1) * v5) (v3 * ((S.AI a5 v7.toNatClampNeg).toInt64))) ≤ 0) → wX8_steep_b104 x0 x1 x2 Φ k18 S v3 v5 v7 (z0 * z1) ((S.AI a5 v7.toNatClampNeg).toInt64) 1))
set_option maxHeartbeats 4000000 in
set_option maxRecDepth 100000 in
theorem bX8_steep_b71 {p : Program} {l : Launch} {e : Env} {s : State} {m : MethodId} {args : Array Value} {below : List Frame} {meth : Method} {c : Code} {G : Gw} {x0 : Nat} {x1 : Int32} {x2 : Int32} {Φ : Hp → Int64 → Prop} (C0 : Mx p s m c cX8_steep 13 args yX8_steep.cls G) (Y : My meth (some .long)) {k18 : Hp → Int64 → Int64 → Int32 → Prop} (hk18 : ∀ (S : Hp) (v3 : Int64) (v5 : Int64) (v7 : Int32) (H : Heap) (locs : List Loc) (ls : Array Slot), k18 S v3 v5 v7 → Ok G S H → va_S (Ab G.b) s.heap H locs → lv_has ls 13 [(0, .ref x0), (1, .int x1), (2, .int x2), (3, .long v3), (5, .long v5), (7, .int v7)] → W p l e rm_X8_steep s m args below meth c H locs 0 0 (MQ below (gQ G (PJ Φ)) args s rm_X8_steep.cells rm_X8_steep.slots (Ab G.b)) (F0 m 18 ls [])) : ∀ (S : Hp) (v3 : Int64) (v5 : Int64) (v7 : Int32) (z0 : Int64) (z1 : Int64) (H : Heap) (locs : List Loc) (ls : Array Slot), wX8_steep_b71 x0 x1 x2 Φ k18 S v3 v5 v7 z0 z1 → Ok G S H → va_S (Ab G.b) s.heap H locs → lv_has ls 13 [(0, .ref x0), (1, .int x1), (2, .int x2), (3, .long v3), (5, .long v5), (7, .int v7)] → W p l e rm_X8_steep s m args below meth c H locs 0 0 (MQ below (gQ G (PJ Φ)) args s rm_X8_steep.cells rm_X8_steep.slots (Ab G.b)) (F0 m 71 ls [.long z1, .long z0]) := by
  intro S v3 v5 v7 z0 z1 H locs ls h hO hS hl
  unfold wX8_steep_b71 at h
  refine lv_lmul C0.1 C0.2.1 dX8_steep_71 ?_
  refine lv_lstore C0.1 C0.2.1 dX8_steep_72 hl (by decide) rfl (fun ls hl => ?_)
  refine lv_aload_n C0.1 C0.2.1 dX8_steep_74 rfl (lv_at hl 1 rfl) ?_
  obtain ⟨i1, h⟩ := h
  obtain ⟨a2, ea2, h⟩ := h
  refine g8_24 C0 hO i1 ea2 tb_1352 dX8_steep_75 ?_
  refine lv_iload_n C0.1 C0.2.1 dX8_steep_78 rfl (lv_at hl 2 rfl) ?_
  obtain ⟨i3, h⟩ := h
  obtain ⟨e4, a5, ea5, h⟩ := h
  refine r_oald26 C0 hO i3 e4 dX8_steep_79 ?_
  rw [ea5]
  change W _ _ _ _ _ _ _ _ _ _ _ _ _ _ _ (F0 _ _ _ (.ref a5 :: _))
  refine lv_iload C0.1 C0.2.1 dX8_steep_80 (lv_at hl 6 rfl) ?_
  obtain ⟨i6, h⟩ := h
  obtain ⟨e7, h⟩ := h
  refine r_iald C0 hO i6 e7 dX8_steep_82 ?_
  refine lv_i2l C0.1 C0.2.1 dX8_steep_83 rfl ?_
  refine lv_lstore C0.1 C0.2.1 dX8_steep_84 hl (by decide) rfl (fun ls hl => ?_)
  refine lv_lload C0.1 C0.2.1 dX8_steep_86 (lv_at hl 1 rfl) ?_
  refine lv_lload C0.1 C0.2.1 dX8_steep_88 (lv_at hl 6 rfl) ?_
  refine lv_lmul C0.1 C0.2.1 dX8_steep_90 ?_
  refine lv_lload_n C0.1 C0.2.1 dX8_steep_91 rfl (lv_at hl 5 rfl) ?_
  refine lv_lload C0.1 C0.2.1 dX8_steep_92 (lv_at hl 0 rfl) ?_
  refine lv_lmul C0.1 C0.2.1 dX8_steep_94 ?_
  refine W.lcmp C0.1 C0.2.1 dX8_steep_95 ?_
  refine lv_if_le (tgt := 103) C0.1 C0.2.1 dX8_steep_96 (by decide) (fun c8 => ?_) (fun c8 => ?_)
  · have h := h.1 c8
    refine lv_iconst (v := 0) C0.1 C0.2.1 dX8_steep_103 (by decide) ?_
    exact bX8_steep_b104 C0 Y hk18 _ _ _ _ _ _ _ _ _ _ h hO hS (lv_sub hl [2, 3, 4, 5, 6, 7, 1, 0] rfl)
  · have h := h.2 c8
    refine lv_iconst (v := 1) C0.1 C0.2.1 dX8_steep_99 (by decide) ?_
    refine lv_goto (tgt := 104) C0.1 C0.2.1 dX8_steep_100 (by decide) ?_
    exact bX8_steep_b104 C0 Y hk18 _ _ _ _ _ _ _ _ _ _ h hO hS (lv_sub hl [2, 3, 4, 5, 6, 7, 1, 0] rfl)
def wX8_steep_b18 (x0 : Nat) (x1 : Int32) (x2 : Int32) (Φ : Hp → Int64 → Prop) (k18 : Hp → Int64 → Int64 → Int32 → Prop) (S : Hp) (v3 : Int64) (v5 : Int64) (v7 : Int32) : Prop := isA S x0 8 ∧ ∃ a2, S.FR 535 x0 = some a2 ∧ isA S a2 21 ∧ vp_in x1 (S.N a2) ∧ (((S.AI a2 x1.toNatClampNeg) ≤ v7 → wX8_result S x0 v3 v5 (fun S6 => ((x2 = 0 → isA S6 x0 8 ∧ Φ S6 (S6.FJ 548 x0)) ∧ (¬ (x2 = 0) → isA S6 x0 8 ∧ Φ S6 (S6.FJ 547 x0))))) ∧ (¬ ((S.AI a2 x1.toNatClampNeg) ≤ v7) → ∃ a10, S.FR 537 x0 = some a10 ∧ isA S a10 26 ∧ vp_in x1 (S.N a10) ∧ ∃ a13, S.AR a10 x1.toNatClampNeg = some a13 ∧ isA S a13 21 ∧ vp_in v7 (S.N a13) ∧ wX8_before S x0 x1 v7 (fun S16 r17 => isA S16 x0 8 ∧ ∃ a19, S16.FR 538 x0 = some a19 ∧ isA S16 a19 27 ∧ vp_in x1 (S16.N a19) ∧ ∃ a22, S16.AR a19 x1.toNatClampNeg = some a22 ∧ isA S16 a22 20 ∧ vp_in v7 (S16.N a22) ∧ ((¬ (S16.AI a22 v7.toNatClampNeg) = 112 → wX8_steep_b71 x0 x1 x2 Φ k18 S16 v3 v5 v7 ((if 0 ≤ ((S.AI a13 v7.toNatClampNeg) - r17) then ((S.AI a13 v7.toNatClampNeg) - r17) else 0 - ((S.AI a13 v7.toNatClampNeg) - r17)).toInt64) 1) ∧ ((S16.AI a22 v7.toNatClampNeg) = 112 → wX8_steep_b71 x0 x1 x2 Φ k18 S16 v3 v5 v7 ((if 0 ≤ ((S.AI a13 v7.toNatClampNeg) - r17) then ((S.AI a13 v7.toNatClampNeg) - r17) else 0 - ((S.AI a13 v7.toNatClampNeg) - r17)).toInt64) 2)))))
set_option maxHeartbeats 4000000 in
set_option maxRecDepth 100000 in
theorem bX8_steep_b18 {p : Program} {l : Launch} {e : Env} {s : State} {m : MethodId} {args : Array Value} {below : List Frame} {meth : Method} {c : Code} {G : Gw} {x0 : Nat} {x1 : Int32} {x2 : Int32} {Φ : Hp → Int64 → Prop} (C0 : Mx p s m c cX8_steep 13 args yX8_steep.cls G) (Y : My meth (some .long)) {k18 : Hp → Int64 → Int64 → Int32 → Prop} (hk18 : ∀ (S : Hp) (v3 : Int64) (v5 : Int64) (v7 : Int32) (H : Heap) (locs : List Loc) (ls : Array Slot), k18 S v3 v5 v7 → Ok G S H → va_S (Ab G.b) s.heap H locs → lv_has ls 13 [(0, .ref x0), (1, .int x1), (2, .int x2), (3, .long v3), (5, .long v5), (7, .int v7)] → W p l e rm_X8_steep s m args below meth c H locs 0 0 (MQ below (gQ G (PJ Φ)) args s rm_X8_steep.cells rm_X8_steep.slots (Ab G.b)) (F0 m 18 ls [])) : ∀ (S : Hp) (v3 : Int64) (v5 : Int64) (v7 : Int32) (H : Heap) (locs : List Loc) (ls : Array Slot), wX8_steep_b18 x0 x1 x2 Φ k18 S v3 v5 v7 → Ok G S H → va_S (Ab G.b) s.heap H locs → lv_has ls 13 [(0, .ref x0), (1, .int x1), (2, .int x2), (3, .long v3), (5, .long v5), (7, .int v7)] → W p l e rm_X8_steep s m args below meth c H locs 0 0 (MQ below (gQ G (PJ Φ)) args s rm_X8_steep.cells rm_X8_steep.slots (Ab G.b)) (F0 m 18 ls []) := by
  intro S v3 v5 v7 H locs ls h hO hS hl
  unfold wX8_steep_b18 at h
  refine lv_iload C0.1 C0.2.1 dX8_steep_18 (lv_at hl 5 rfl) ?_
  refine lv_aload_n C0.1 C0.2.1 dX8_steep_20 rfl (lv_at hl 0 rfl) ?_
  obtain ⟨i1, h⟩ := h
  obtain ⟨a2, ea2, h⟩ := h
  refine g8_23 C0 hO i1 ea2 tb_1351 dX8_steep_21 ?_
  refine lv_iload_n C0.1 C0.2.1 dX8_steep_24 rfl (lv_at hl 1 rfl) ?_
  obtain ⟨i3, h⟩ := h
  obtain ⟨e4, h⟩ := h
  refine r_iald C0 hO i3 e4 dX8_steep_25 ?_
  refine lv_icmp_ge (tgt := 138) C0.1 C0.2.1 dX8_steep_26 (by decide) (fun c5 => ?_) (fun c5 => ?_)
  · have h := h.1 c5
    refine lv_aload_n C0.1 C0.2.1 dX8_steep_138 rfl (lv_at hl 0 rfl) ?_
    refine lv_lload_n C0.1 C0.2.1 dX8_steep_139 rfl (lv_at hl 3 rfl) ?_
    refine lv_lload C0.1 C0.2.1 dX8_steep_140 (lv_at hl 4 rfl) ?_
    refine c_V C0 hO hS (mX8_result h) i1 (by decide) rfl rfl tb_1532 tb_1534 tb_48 tb_81 tb_1535 hd_X8_result rfl ⟨⟨by decide, by decide⟩, by decide, by decide⟩ hl.1 rfl (Nat.le_of_ble_eq_true rfl) dX8_steep_142 (kV (fun S6 H locs h hO hS => ?_))
    refine lv_iload_n C0.1 C0.2.1 dX8_steep_145 rfl (lv_at hl 2 rfl) ?_
    refine lv_if_eq (tgt := 156) C0.1 C0.2.1 dX8_steep_146 (by decide) (fun c7 => ?_) (fun c7 => ?_)
    · have h := h.1 c7
      refine lv_aload_n C0.1 C0.2.1 dX8_steep_156 rfl (lv_at hl 0 rfl) ?_
      obtain ⟨i8, h⟩ := h
      refine g8_36 C0 hO i8 tb_1364 dX8_steep_157 ?_
      exact e_J C0 Y hO hS h (Nat.le_refl _) (Nat.le_refl _) dX8_steep_160
    · have h := h.2 c7
      refine lv_aload_n C0.1 C0.2.1 dX8_steep_149 rfl (lv_at hl 0 rfl) ?_
      obtain ⟨i9, h⟩ := h
      refine g8_35 C0 hO i9 tb_1363 dX8_steep_150 ?_
      refine lv_goto (tgt := 160) C0.1 C0.2.1 dX8_steep_153 (by decide) ?_
      exact e_J C0 Y hO hS h (Nat.le_refl _) (Nat.le_refl _) dX8_steep_160
  · have h := h.2 c5
    refine lv_aload_n C0.1 C0.2.1 dX8_steep_29 rfl (lv_at hl 0 rfl) ?_
    obtain ⟨a10, ea10, h⟩ := h
    refine g8_25 C0 hO i1 ea10 tb_1353 dX8_steep_30 ?_
    refine lv_iload_n C0.1 C0.2.1 dX8_steep_33 rfl (lv_at hl 1 rfl) ?_
    obtain ⟨i11, h⟩ := h
    obtain ⟨e12, a13, ea13, h⟩ := h
    refine r_oald26 C0 hO i11 e12 dX8_steep_34 ?_
    rw [ea13]
    change W _ _ _ _ _ _ _ _ _ _ _ _ _ _ _ (F0 _ _ _ (.ref a13 :: _))
    refine lv_iload C0.1 C0.2.1 dX8_steep_35 (lv_at hl 5 rfl) ?_
    obtain ⟨i14, h⟩ := h
    obtain ⟨e15, h⟩ := h
    refine r_iald C0 hO i14 e15 dX8_steep_37 ?_
    refine lv_aload_n C0.1 C0.2.1 dX8_steep_38 rfl (lv_at hl 0 rfl) ?_
    refine lv_iload_n C0.1 C0.2.1 dX8_steep_39 rfl (lv_at hl 1 rfl) ?_
    refine lv_iload C0.1 C0.2.1 dX8_steep_40 (lv_at hl 5 rfl) ?_
    refine c_V C0 hO hS (mX8_before h) i1 (by decide) rfl rfl tb_1670 tb_1672 tb_64 tb_81 tb_1673 hd_X8_before rfl ⟨⟨by decide, by decide⟩, by decide, by decide⟩ hl.1 rfl (Nat.le_of_ble_eq_true rfl) dX8_steep_42 (kI (fun r17 S16 H locs h hO hS => ?_))
    refine lv_isub C0.1 C0.2.1 dX8_steep_45 ?_
    refine va_mabs C0.1 C0.2.1 (C0.2.2.1.trans hl.1.symm) C0.2.2.2.1 (C0.2.2.2.2.1 _ tb_1526) (C0.2.2.2.2.1 _ tb_303) (C0.2.2.2.2.1 _ tb_94) (C0.2.2.2.2.1 _ tb_304) (Nat.le_of_ble_eq_true rfl) (Nat.le_of_ble_eq_true rfl) (by decide) (by decide) dX8_steep_46 ?_
    refine lv_i2l C0.1 C0.2.1 dX8_steep_49 rfl ?_
    refine lv_aload_n C0.1 C0.2.1 dX8_steep_50 rfl (lv_at hl 0 rfl) ?_
    obtain ⟨i18, h⟩ := h
    obtain ⟨a19, ea19, h⟩ := h
    refine g8_26 C0 hO i18 ea19 tb_1354 dX8_steep_51 ?_
    refine lv_iload_n C0.1 C0.2.1 dX8_steep_54 rfl (lv_at hl 1 rfl) ?_
    obtain ⟨i20, h⟩ := h
    obtain ⟨e21, a22, ea22, h⟩ := h
    refine r_oald27 C0 hO i20 e21 dX8_steep_55 ?_
    rw [ea22]
    change W _ _ _ _ _ _ _ _ _ _ _ _ _ _ _ (F0 _ _ _ (.ref a22 :: _))
    refine lv_iload C0.1 C0.2.1 dX8_steep_56 (lv_at hl 5 rfl) ?_
    obtain ⟨i23, h⟩ := h
    obtain ⟨e24, h⟩ := h
    refine r_cald C0 hO i23 e24 dX8_steep_58 ?_
    refine lv_bipush (v := 112) C0.1 C0.2.1 dX8_steep_59 (by decide) ?_
    refine lv_icmp_ne (tgt := 70) C0.1 C0.2.1 dX8_steep_61 (by decide) (fun c25 => ?_) (fun c25 => ?_)
    · have h := h.1 c25
      refine lv_lconst (v := 1) C0.1 C0.2.1 dX8_steep_70 (by decide) ?_
      exact bX8_steep_b71 C0 Y hk18 _ _ _ _ _ _ _ _ _ h hO hS (lv_sub hl [0, 1, 2, 3, 4, 5] rfl)
    · have h := h.2 c25
      refine lv_ldc2 (v := 2) C0.1 C0.2.1 C0.2.2.2.1 (C0.2.2.2.2.1 _ tb_1674) dX8_steep_64 ?_
      refine lv_goto (tgt := 71) C0.1 C0.2.1 dX8_steep_67 (by decide) ?_
      exact bX8_steep_b71 C0 Y hk18 _ _ _ _ _ _ _ _ _ h hO hS (lv_sub hl [0, 1, 2, 3, 4, 5] rfl)
set_option maxHeartbeats 4000000 in
set_option maxRecDepth 100000 in
theorem lX8_steep_b18 {p : Program} {l : Launch} {e : Env} {s : State} {m : MethodId} {args : Array Value} {below : List Frame} {meth : Method} {c : Code} {G : Gw} {x0 : Nat} {x1 : Int32} {x2 : Int32} {Φ : Hp → Int64 → Prop} (C0 : Mx p s m c cX8_steep 13 args yX8_steep.cls G) (Y : My meth (some .long))  : ∀ n9 : Nat, ∀ (S : Hp) (v3 : Int64) (v5 : Int64) (v7 : Int32) (H : Heap) (locs : List Loc) (ls : Array Slot), it4 (wX8_steep_b18 x0 x1 x2 Φ) n9 S v3 v5 v7 → Ok G S H → va_S (Ab G.b) s.heap H locs → lv_has ls 13 [(0, .ref x0), (1, .int x1), (2, .int x2), (3, .long v3), (5, .long v5), (7, .int v7)] → W p l e rm_X8_steep s m args below meth c H locs 0 0 (MQ below (gQ G (PJ Φ)) args s rm_X8_steep.cells rm_X8_steep.slots (Ab G.b)) (F0 m 18 ls []) := by
  intro n9
  induction n9 with
  | zero => intro S v3 v5 v7 H locs ls h; exact (h : False).elim
  | succ n9 ih => intro S v3 v5 v7 H locs ls h hO hS hl; exact bX8_steep_b18 C0 Y ih S v3 v5 v7 H locs ls h hO hS hl
def wX8_steep_b0 (x0 : Nat) (x1 : Int32) (x2 : Int32) (Φ : Hp → Int64 → Prop) (S : Hp) : Prop := isA S x0 8 ∧ wX8_isNotWhole S x0 x1 (fun S1 r2 => ((r2 = 0 → ∃ n, it4 (wX8_steep_b18 x0 x1 x2 Φ) n S1 0 1 0) ∧ (¬ (r2 = 0) → Φ S1 0)))
set_option maxHeartbeats 4000000 in
set_option maxRecDepth 100000 in
theorem bX8_steep_b0 {p : Program} {l : Launch} {e : Env} {s : State} {m : MethodId} {args : Array Value} {below : List Frame} {meth : Method} {c : Code} {G : Gw} {x0 : Nat} {x1 : Int32} {x2 : Int32} {Φ : Hp → Int64 → Prop} (C0 : Mx p s m c cX8_steep 13 args yX8_steep.cls G) (Y : My meth (some .long))  : ∀ (S : Hp) (H : Heap) (locs : List Loc) (ls : Array Slot), wX8_steep_b0 x0 x1 x2 Φ S → Ok G S H → va_S (Ab G.b) s.heap H locs → lv_has ls 13 [(0, .ref x0), (1, .int x1), (2, .int x2)] → W p l e rm_X8_steep s m args below meth c H locs 0 0 (MQ below (gQ G (PJ Φ)) args s rm_X8_steep.cells rm_X8_steep.slots (Ab G.b)) (F0 m 0 ls []) := by
  intro S H locs ls h hO hS hl
  unfold wX8_steep_b0 at h
  refine lv_aload_n C0.1 C0.2.1 dX8_steep_0 rfl (lv_at hl 0 rfl) ?_
  refine lv_iload_n C0.1 C0.2.1 dX8_steep_1 rfl (lv_at hl 1 rfl) ?_
  obtain ⟨i3, h⟩ := h
  refine c_V C0 hO hS (mX8_isNotWhole h) i3 (by decide) rfl rfl tb_1666 tb_1668 tb_63 tb_81 tb_1669 hd_X8_isNotWhole rfl ⟨⟨by decide, by decide⟩, by decide, by decide⟩ hl.1 rfl (Nat.le_of_ble_eq_true rfl) dX8_steep_2 (kI (fun r2 S1 H locs h hO hS => ?_))
  refine lv_if_eq (tgt := 10) C0.1 C0.2.1 dX8_steep_5 (by decide) (fun c4 => ?_) (fun c4 => ?_)
  · have h := h.1 c4
    refine lv_lconst (v := 0) C0.1 C0.2.1 dX8_steep_10 (by decide) ?_
    refine lv_lstore_n C0.1 C0.2.1 dX8_steep_11 rfl hl (by decide) rfl (fun ls hl => ?_)
    refine lv_lconst (v := 1) C0.1 C0.2.1 dX8_steep_12 (by decide) ?_
    refine lv_lstore C0.1 C0.2.1 dX8_steep_13 hl (by decide) rfl (fun ls hl => ?_)
    refine lv_iconst (v := 0) C0.1 C0.2.1 dX8_steep_15 (by decide) ?_
    refine lv_istore C0.1 C0.2.1 dX8_steep_16 hl (by decide) rfl (fun ls hl => ?_)
    obtain ⟨n9, h⟩ := h
    exact lX8_steep_b18 C0 Y n9 _ _ _ _ _ _ _ h hO hS (lv_sub hl [3, 4, 5, 2, 1, 0] rfl)
  · have h := h.2 c4
    refine lv_lconst (v := 0) C0.1 C0.2.1 dX8_steep_8 (by decide) ?_
    exact e_J C0 Y hO hS h (Nat.le_refl _) (Nat.le_refl _) dX8_steep_9
def wX8_steep (S : Hp) (x0 : Nat) (x1 : Int32) (x2 : Int32) (Φ : Hp → Int64 → Prop) : Prop := wX8_steep_b0 x0 x1 x2 Φ S
set_option maxRecDepth 100000 in
theorem mX8_steep {l : Launch} {G : Gw} {S : Hp} {x0 : Nat} {x1 : Int32} {x2 : Int32} {Φ : Hp → Int64 → Prop} (h : wX8_steep S x0 x1 x2 Φ) : gM l yX8_steep cX8_steep 13 (some .long) rm_X8_steep [.ref x0, .int x1, .int x2] G S (PJ Φ) := by
  unfold gM
  refine Met.ofW (cc := cX8_steep) (maxL := 13) (ret := (some .long)) (by decide) rfl ?_
  intro p e s m args below meth c s₁ B hml hv
  obtain ⟨rfl, hw⟩ := hv
  obtain ⟨C0, Y, hO⟩ := mx_of B hml hw
  have hS : va_S (Ab G.b) s.heap s.heap [] := va_S.rf
  have hl := lv_entry ([.ref x0, .int x1, .int x2]) (n := 13) (Nat.le_of_ble_eq_true rfl)
  rw [lg_entry_eq]
  generalize (lg_sl ([.ref x0, .int x1, .int x2]) ++ List.replicate (13 - (lg_sl ([.ref x0, .int x1, .int x2])).length) Slot.unset).toArray = ls at hl ⊢
  have hl : lv_has ls 13 [(0, .ref x0), (1, .int x1), (2, .int x2)] := hl
  exact bX8_steep_b0 C0 Y S _ _ _ h hO hS hl

def rm_X8_steepOver : Room := { frames := 4, cells := 0, slots := 0, locals := 102 }
def wX8_steepOver_b0 (x0 : Nat) (x1 : Int32) (Φ : Hp → Int64 → Prop) (S : Hp) : Prop := isA S x0 8 ∧ wX8_steep S x0 x1 1 (fun S1 r2 => Φ S1 r2)
set_option maxHeartbeats 4000000 in
set_option maxRecDepth 100000 in
theorem bX8_steepOver_b0 {p : Program} {l : Launch} {e : Env} {s : State} {m : MethodId} {args : Array Value} {below : List Frame} {meth : Method} {c : Code} {G : Gw} {x0 : Nat} {x1 : Int32} {Φ : Hp → Int64 → Prop} (C0 : Mx p s m c cX8_steepOver 2 args yX8_steepOver.cls G) (Y : My meth (some .long))  : ∀ (S : Hp) (H : Heap) (locs : List Loc) (ls : Array Slot), wX8_steepOver_b0 x0 x1 Φ S → Ok G S H → va_S (Ab G.b) s.heap H locs → lv_has ls 2 [(0, .ref x0), (1, .int x1)] → W p l e rm_X8_steepOver s m args below meth c H locs 0 0 (MQ below (gQ G (PJ Φ)) args s rm_X8_steepOver.cells rm_X8_steepOver.slots (Ab G.b)) (F0 m 0 ls []) := by
  intro S H locs ls h hO hS hl
  unfold wX8_steepOver_b0 at h
  refine lv_aload_n C0.1 C0.2.1 dX8_steepOver_0 rfl (lv_at hl 0 rfl) ?_
  refine lv_iload_n C0.1 C0.2.1 dX8_steepOver_1 rfl (lv_at hl 1 rfl) ?_
  refine lv_iconst (v := 1) C0.1 C0.2.1 dX8_steepOver_2 (by decide) ?_
  obtain ⟨i3, h⟩ := h
  refine c_V C0 hO hS (mX8_steep h) i3 (by decide) rfl rfl tb_1683 tb_1685 tb_65 tb_81 tb_1686 hd_X8_steep rfl ⟨⟨by decide, by decide⟩, by decide, by decide⟩ hl.1 rfl (Nat.le_of_ble_eq_true rfl) dX8_steepOver_3 (kJ (fun r2 S1 H locs h hO hS => ?_))
  exact e_J C0 Y hO hS h (Nat.le_refl _) (Nat.le_refl _) dX8_steepOver_6
def wX8_steepOver (S : Hp) (x0 : Nat) (x1 : Int32) (Φ : Hp → Int64 → Prop) : Prop := wX8_steepOver_b0 x0 x1 Φ S
set_option maxRecDepth 100000 in
theorem mX8_steepOver {l : Launch} {G : Gw} {S : Hp} {x0 : Nat} {x1 : Int32} {Φ : Hp → Int64 → Prop} (h : wX8_steepOver S x0 x1 Φ) : gM l yX8_steepOver cX8_steepOver 2 (some .long) rm_X8_steepOver [.ref x0, .int x1] G S (PJ Φ) := by
  unfold gM
  refine Met.ofW (cc := cX8_steepOver) (maxL := 2) (ret := (some .long)) (by decide) rfl ?_
  intro p e s m args below meth c s₁ B hml hv
  obtain ⟨rfl, hw⟩ := hv
  obtain ⟨C0, Y, hO⟩ := mx_of B hml hw
  have hS : va_S (Ab G.b) s.heap s.heap [] := va_S.rf
  have hl := lv_entry ([.ref x0, .int x1]) (n := 2) (Nat.le_of_ble_eq_true rfl)
  rw [lg_entry_eq]
  generalize (lg_sl ([.ref x0, .int x1]) ++ List.replicate (2 - (lg_sl ([.ref x0, .int x1])).length) Slot.unset).toArray = ls at hl ⊢
  have hl : lv_has ls 2 [(0, .ref x0), (1, .int x1)] := hl
  exact bX8_steepOver_b0 C0 Y S _ _ _ h hO hS hl

def rm_X8_steepUnder : Room := { frames := 4, cells := 0, slots := 0, locals := 102 }
def wX8_steepUnder_b0 (x0 : Nat) (x1 : Int32) (Φ : Hp → Int64 → Prop) (S : Hp) : Prop := isA S x0 8 ∧ wX8_steep S x0 x1 0 (fun S1 r2 => Φ S1 r2)
set_option maxHeartbeats 4000000 in
set_option maxRecDepth 100000 in
theorem bX8_steepUnder_b0 {p : Program} {l : Launch} {e : Env} {s : State} {m : MethodId} {args : Array Value} {below : List Frame} {meth : Method} {c : Code} {G : Gw} {x0 : Nat} {x1 : Int32} {Φ : Hp → Int64 → Prop} (C0 : Mx p s m c cX8_steepUnder 2 args yX8_steepUnder.cls G) (Y : My meth (some .long))  : ∀ (S : Hp) (H : Heap) (locs : List Loc) (ls : Array Slot), wX8_steepUnder_b0 x0 x1 Φ S → Ok G S H → va_S (Ab G.b) s.heap H locs → lv_has ls 2 [(0, .ref x0), (1, .int x1)] → W p l e rm_X8_steepUnder s m args below meth c H locs 0 0 (MQ below (gQ G (PJ Φ)) args s rm_X8_steepUnder.cells rm_X8_steepUnder.slots (Ab G.b)) (F0 m 0 ls []) := by
  intro S H locs ls h hO hS hl
  unfold wX8_steepUnder_b0 at h
  refine lv_aload_n C0.1 C0.2.1 dX8_steepUnder_0 rfl (lv_at hl 0 rfl) ?_
  refine lv_iload_n C0.1 C0.2.1 dX8_steepUnder_1 rfl (lv_at hl 1 rfl) ?_
  refine lv_iconst (v := 0) C0.1 C0.2.1 dX8_steepUnder_2 (by decide) ?_
  obtain ⟨i3, h⟩ := h
  refine c_V C0 hO hS (mX8_steep h) i3 (by decide) rfl rfl tb_1683 tb_1685 tb_65 tb_81 tb_1686 hd_X8_steep rfl ⟨⟨by decide, by decide⟩, by decide, by decide⟩ hl.1 rfl (Nat.le_of_ble_eq_true rfl) dX8_steepUnder_3 (kJ (fun r2 S1 H locs h hO hS => ?_))
  exact e_J C0 Y hO hS h (Nat.le_refl _) (Nat.le_refl _) dX8_steepUnder_6
def wX8_steepUnder (S : Hp) (x0 : Nat) (x1 : Int32) (Φ : Hp → Int64 → Prop) : Prop := wX8_steepUnder_b0 x0 x1 Φ S
set_option maxRecDepth 100000 in
theorem mX8_steepUnder {l : Launch} {G : Gw} {S : Hp} {x0 : Nat} {x1 : Int32} {Φ : Hp → Int64 → Prop} (h : wX8_steepUnder S x0 x1 Φ) : gM l yX8_steepUnder cX8_steepUnder 2 (some .long) rm_X8_steepUnder [.ref x0, .int x1] G S (PJ Φ) := by
  unfold gM
  refine Met.ofW (cc := cX8_steepUnder) (maxL := 2) (ret := (some .long)) (by decide) rfl ?_
  intro p e s m args below meth c s₁ B hml hv
  obtain ⟨rfl, hw⟩ := hv
  obtain ⟨C0, Y, hO⟩ := mx_of B hml hw
  have hS : va_S (Ab G.b) s.heap s.heap [] := va_S.rf
  have hl := lv_entry ([.ref x0, .int x1]) (n := 2) (Nat.le_of_ble_eq_true rfl)
  rw [lg_entry_eq]
  generalize (lg_sl ([.ref x0, .int x1]) ++ List.replicate (2 - (lg_sl ([.ref x0, .int x1])).length) Slot.unset).toArray = ls at hl ⊢
  have hl : lv_has ls 2 [(0, .ref x0), (1, .int x1)] := hl
  exact bX8_steepUnder_b0 C0 Y S _ _ _ h hO hS hl

def rm_X8_wish : Room := { frames := 2, cells := 0, slots := 0, locals := 43 }
def wX8_wish_b103 (x0 : Nat) (x1 : Int32) (x2 : Int32) (x3 : Int32) (Φ : Hp → Int32 → Prop) (k76 : Hp → Int32 → Nat → Int32 → Int32 → Prop) (S : Hp) (v5 : Nat) (v6 : Int32) (v7 : Int32) (z0 : Int32) (z1 : Int32) : Prop := k76 S (z0 + z1) v5 v6 (v7 + 1)
set_option maxHeartbeats 4000000 in
set_option maxRecDepth 100000 in
theorem bX8_wish_b103 {p : Program} {l : Launch} {e : Env} {s : State} {m : MethodId} {args : Array Value} {below : List Frame} {meth : Method} {c : Code} {G : Gw} {x0 : Nat} {x1 : Int32} {x2 : Int32} {x3 : Int32} {Φ : Hp → Int32 → Prop} (C0 : Mx p s m c cX8_wish 9 args yX8_wish.cls G) (Y : My meth (some .int)) {k76 : Hp → Int32 → Nat → Int32 → Int32 → Prop} (hk76 : ∀ (S : Hp) (v4 : Int32) (v5 : Nat) (v6 : Int32) (v7 : Int32) (H : Heap) (locs : List Loc) (ls : Array Slot), k76 S v4 v5 v6 v7 → Ok G S H → va_S (Ab G.b) s.heap H locs → lv_has ls 9 [(0, .ref x0), (1, .int x1), (2, .int x2), (3, .int x3), (4, .int v4), (5, .ref v5), (6, .int v6), (7, .int v7)] → W p l e rm_X8_wish s m args below meth c H locs 0 0 (MQ below (gQ G (PI Φ)) args s rm_X8_wish.cells rm_X8_wish.slots (Ab G.b)) (F0 m 76 ls [])) : ∀ (S : Hp) (v5 : Nat) (v6 : Int32) (v7 : Int32) (z0 : Int32) (z1 : Int32) (H : Heap) (locs : List Loc) (ls : Array Slot), wX8_wish_b103 x0 x1 x2 x3 Φ k76 S v5 v6 v7 z0 z1 → Ok G S H → va_S (Ab G.b) s.heap H locs → lv_has ls 9 [(0, .ref x0), (1, .int x1), (2, .int x2), (3, .int x3), (5, .ref v5), (6, .int v6), (7, .int v7)] → W p l e rm_X8_wish s m args below meth c H locs 0 0 (MQ below (gQ G (PI Φ)) args s rm_X8_wish.cells rm_X8_wish.slots (Ab G.b)) (F0 m 103 ls [.int z1, .int z0]) := by
  intro S v5 v6 v7 z0 z1 H locs ls h hO hS hl
  unfold wX8_wish_b103 at h
  refine lv_iadd C0.1 C0.2.1 dX8_wish_103 ?_
  refine lv_istore C0.1 C0.2.1 dX8_wish_104 hl (by decide) rfl (fun ls hl => ?_)
  refine lv_iinc (v := _ + 1) C0.1 C0.2.1 dX8_wish_106 hl (k := 7) rfl rfl (by decide) rfl (fun ls hl => ?_)
  refine lv_goto (tgt := 76) C0.1 C0.2.1 dX8_wish_109 (by decide) ?_
  exact hk76 _ _ _ _ _ _ _ _ h hO hS (lv_sub hl [2, 3, 4, 5, 1, 6, 7, 0] rfl)
def wX8_wish_b76 (x0 : Nat) (x1 : Int32) (x2 : Int32) (x3 : Int32) (Φ : Hp → Int32 → Prop) (k76 : Hp → Int32 → Nat → Int32 → Int32 → Prop) (S : Hp) (v4 : Int32) (v5 : Nat) (v6 : Int32) (v7 : Int32) : Prop := ((v6 ≤ v7 → Φ S v4) ∧ (¬ (v6 ≤ v7) → isA S v5 21 ∧ vp_in v7 (S.N v5) ∧ ((¬ (S.AI v5 v7.toNatClampNeg) = (-1) → wX8_wish_b103 x0 x1 x2 x3 Φ k76 S v5 v6 v7 v4 1) ∧ ((S.AI v5 v7.toNatClampNeg) = (-1) → wX8_wish_b103 x0 x1 x2 x3 Φ k76 S v5 v6 v7 v4 0))))
set_option maxHeartbeats 4000000 in
set_option maxRecDepth 100000 in
theorem bX8_wish_b76 {p : Program} {l : Launch} {e : Env} {s : State} {m : MethodId} {args : Array Value} {below : List Frame} {meth : Method} {c : Code} {G : Gw} {x0 : Nat} {x1 : Int32} {x2 : Int32} {x3 : Int32} {Φ : Hp → Int32 → Prop} (C0 : Mx p s m c cX8_wish 9 args yX8_wish.cls G) (Y : My meth (some .int)) {k76 : Hp → Int32 → Nat → Int32 → Int32 → Prop} (hk76 : ∀ (S : Hp) (v4 : Int32) (v5 : Nat) (v6 : Int32) (v7 : Int32) (H : Heap) (locs : List Loc) (ls : Array Slot), k76 S v4 v5 v6 v7 → Ok G S H → va_S (Ab G.b) s.heap H locs → lv_has ls 9 [(0, .ref x0), (1, .int x1), (2, .int x2), (3, .int x3), (4, .int v4), (5, .ref v5), (6, .int v6), (7, .int v7)] → W p l e rm_X8_wish s m args below meth c H locs 0 0 (MQ below (gQ G (PI Φ)) args s rm_X8_wish.cells rm_X8_wish.slots (Ab G.b)) (F0 m 76 ls [])) : ∀ (S : Hp) (v4 : Int32) (v5 : Nat) (v6 : Int32) (v7 : Int32) (H : Heap) (locs : List Loc) (ls : Array Slot), wX8_wish_b76 x0 x1 x2 x3 Φ k76 S v4 v5 v6 v7 → Ok G S H → va_S (Ab G.b) s.heap H locs → lv_has ls 9 [(0, .ref x0), (1, .int x1), (2, .int x2), (3, .int x3), (4, .int v4), (5, .ref v5), (6, .int v6), (7, .int v7)] → W p l e rm_X8_wish s m args below meth c H locs 0 0 (MQ below (gQ G (PI Φ)) args s rm_X8_wish.cells rm_X8_wish.slots (Ab G.b)) (F0 m 76 ls []) := by
  intro S v4 v5 v6 v7 H locs ls h hO hS hl
  unfold wX8_wish_b76 at h
  refine lv_iload C0.1 C0.2.1 dX8_wish_76 (lv_at hl 7 rfl) ?_
  refine lv_iload C0.1 C0.2.1 dX8_wish_78 (lv_at hl 6 rfl) ?_
  refine lv_icmp_ge (tgt := 112) C0.1 C0.2.1 dX8_wish_80 (by decide) (fun c1 => ?_) (fun c1 => ?_)
  · have h := h.1 c1
    refine lv_iload C0.1 C0.2.1 dX8_wish_112 (lv_at hl 4 rfl) ?_
    exact e_I C0 Y hO hS h (Nat.le_refl _) (Nat.le_refl _) dX8_wish_114
  · have h := h.2 c1
    refine lv_aload C0.1 C0.2.1 dX8_wish_83 (lv_at hl 5 rfl) ?_
    refine lv_iload C0.1 C0.2.1 dX8_wish_85 (lv_at hl 7 rfl) ?_
    obtain ⟨i2, h⟩ := h
    obtain ⟨e3, h⟩ := h
    refine r_iald C0 hO i2 e3 dX8_wish_87 ?_
    refine lv_istore C0.1 C0.2.1 dX8_wish_88 hl (by decide) rfl (fun ls hl => ?_)
    refine lv_iload C0.1 C0.2.1 dX8_wish_90 (lv_at hl 5 rfl) ?_
    refine lv_iload C0.1 C0.2.1 dX8_wish_92 (lv_at hl 0 rfl) ?_
    refine lv_iconst (v := (-1)) C0.1 C0.2.1 dX8_wish_94 (by decide) ?_
    refine lv_icmp_ne (tgt := 102) C0.1 C0.2.1 dX8_wish_95 (by decide) (fun c4 => ?_) (fun c4 => ?_)
    · have h := h.1 c4
      refine lv_iconst (v := 1) C0.1 C0.2.1 dX8_wish_102 (by decide) ?_
      exact bX8_wish_b103 C0 Y hk76 _ _ _ _ _ _ _ _ _ h hO hS (lv_sub hl [1, 2, 3, 4, 6, 7, 8] rfl)
    · have h := h.2 c4
      refine lv_iconst (v := 0) C0.1 C0.2.1 dX8_wish_98 (by decide) ?_
      refine lv_goto (tgt := 103) C0.1 C0.2.1 dX8_wish_99 (by decide) ?_
      exact bX8_wish_b103 C0 Y hk76 _ _ _ _ _ _ _ _ _ h hO hS (lv_sub hl [1, 2, 3, 4, 6, 7, 8] rfl)
set_option maxHeartbeats 4000000 in
set_option maxRecDepth 100000 in
theorem lX8_wish_b76 {p : Program} {l : Launch} {e : Env} {s : State} {m : MethodId} {args : Array Value} {below : List Frame} {meth : Method} {c : Code} {G : Gw} {x0 : Nat} {x1 : Int32} {x2 : Int32} {x3 : Int32} {Φ : Hp → Int32 → Prop} (C0 : Mx p s m c cX8_wish 9 args yX8_wish.cls G) (Y : My meth (some .int))  : ∀ n9 : Nat, ∀ (S : Hp) (v4 : Int32) (v5 : Nat) (v6 : Int32) (v7 : Int32) (H : Heap) (locs : List Loc) (ls : Array Slot), it5 (wX8_wish_b76 x0 x1 x2 x3 Φ) n9 S v4 v5 v6 v7 → Ok G S H → va_S (Ab G.b) s.heap H locs → lv_has ls 9 [(0, .ref x0), (1, .int x1), (2, .int x2), (3, .int x3), (4, .int v4), (5, .ref v5), (6, .int v6), (7, .int v7)] → W p l e rm_X8_wish s m args below meth c H locs 0 0 (MQ below (gQ G (PI Φ)) args s rm_X8_wish.cells rm_X8_wish.slots (Ab G.b)) (F0 m 76 ls []) := by
  intro n9
  induction n9 with
  | zero => intro S v4 v5 v6 v7 H locs ls h; exact (h : False).elim
  | succ n9 ih => intro S v4 v5 v6 v7 H locs ls h hO hS hl; exact bX8_wish_b76 C0 Y ih S v4 v5 v6 v7 H locs ls h hO hS hl
def wX8_wish_b39 (x0 : Nat) (x1 : Int32) (x2 : Int32) (x3 : Int32) (Φ : Hp → Int32 → Prop) (S : Hp) (z0 : Nat) (z1 : Int32) : Prop := isA S z0 8 ∧ wX8_isThrown S z0 z1 2 (fun S1 r2 => ((r2 = 0 → isA S1 x0 8 ∧ ∃ a6, S1.FR 539 x0 = some a6 ∧ isA S1 a6 26 ∧ vp_in x1 (S1.N a6) ∧ ∃ a9, S1.AR a6 x1.toNatClampNeg = some a9 ∧ isA S1 a9 21 ∧ vp_in x2 (S1.N a9) ∧ ∀ S12, S12 = S1.setAI a9 x2.toNatClampNeg x3 → ∃ a13, S12.FR 539 x0 = some a13 ∧ isA S12 a13 26 ∧ vp_in x1 (S12.N a13) ∧ ∃ a16, S12.AR a13 x1.toNatClampNeg = some a16 ∧ isA S12 a16 21 ∧ ∃ n, it5 (wX8_wish_b76 x0 x1 x2 x3 Φ) n S12 0 a16 (nI (S12.N a16)) 0) ∧ (¬ (r2 = 0) → Φ S1 0)))
set_option maxHeartbeats 4000000 in
set_option maxRecDepth 100000 in
theorem bX8_wish_b39 {p : Program} {l : Launch} {e : Env} {s : State} {m : MethodId} {args : Array Value} {below : List Frame} {meth : Method} {c : Code} {G : Gw} {x0 : Nat} {x1 : Int32} {x2 : Int32} {x3 : Int32} {Φ : Hp → Int32 → Prop} (C0 : Mx p s m c cX8_wish 9 args yX8_wish.cls G) (Y : My meth (some .int))  : ∀ (S : Hp) (z0 : Nat) (z1 : Int32) (H : Heap) (locs : List Loc) (ls : Array Slot), wX8_wish_b39 x0 x1 x2 x3 Φ S z0 z1 → Ok G S H → va_S (Ab G.b) s.heap H locs → lv_has ls 9 [(0, .ref x0), (1, .int x1), (2, .int x2), (3, .int x3)] → W p l e rm_X8_wish s m args below meth c H locs 0 0 (MQ below (gQ G (PI Φ)) args s rm_X8_wish.cells rm_X8_wish.slots (Ab G.b)) (F0 m 39 ls [.int z1, .ref z0]) := by
  intro S z0 z1 H locs ls h hO hS hl
  unfold wX8_wish_b39 at h
  refine lv_iconst (v := 2) C0.1 C0.2.1 dX8_wish_39 (by decide) ?_
  obtain ⟨i3, h⟩ := h
  refine c_V C0 hO hS (mX8_isThrown h) i3 (by decide) rfl rfl tb_1451 tb_1453 tb_37 tb_81 tb_1454 hd_X8_isThrown rfl ⟨⟨by decide, by decide⟩, by decide, by decide⟩ hl.1 rfl (Nat.le_of_ble_eq_true rfl) dX8_wish_40 (kI (fun r2 S1 H locs h hO hS => ?_))
  refine lv_if_eq (tgt := 48) C0.1 C0.2.1 dX8_wish_43 (by decide) (fun c4 => ?_) (fun c4 => ?_)
  · have h := h.1 c4
    refine lv_aload_n C0.1 C0.2.1 dX8_wish_48 rfl (lv_at hl 0 rfl) ?_
    obtain ⟨i5, h⟩ := h
    obtain ⟨a6, ea6, h⟩ := h
    refine g8_27 C0 hO i5 ea6 tb_1355 dX8_wish_49 ?_
    refine lv_iload_n C0.1 C0.2.1 dX8_wish_52 rfl (lv_at hl 1 rfl) ?_
    obtain ⟨i7, h⟩ := h
    obtain ⟨e8, a9, ea9, h⟩ := h
    refine r_oald26 C0 hO i7 e8 dX8_wish_53 ?_
    rw [ea9]
    change W _ _ _ _ _ _ _ _ _ _ _ _ _ _ _ (F0 _ _ _ (.ref a9 :: _))
    refine lv_iload_n C0.1 C0.2.1 dX8_wish_54 rfl (lv_at hl 2 rfl) ?_
    refine lv_iload_n C0.1 C0.2.1 dX8_wish_55 rfl (lv_at hl 3 rfl) ?_
    obtain ⟨i10, h⟩ := h
    obtain ⟨e11, h⟩ := h
    refine r_iast C0 hO hS i10 e11 dX8_wish_56 (fun H locs hO hS => ?_)
    have h := h _ rfl
    refine lv_iconst (v := 0) C0.1 C0.2.1 dX8_wish_57 (by decide) ?_
    refine lv_istore C0.1 C0.2.1 dX8_wish_58 hl (by decide) rfl (fun ls hl => ?_)
    refine lv_aload_n C0.1 C0.2.1 dX8_wish_60 rfl (lv_at hl 1 rfl) ?_
    obtain ⟨a13, ea13, h⟩ := h
    refine g8_27 C0 hO (sA_AI i5) ea13 tb_1355 dX8_wish_61 ?_
    refine lv_iload_n C0.1 C0.2.1 dX8_wish_64 rfl (lv_at hl 2 rfl) ?_
    obtain ⟨i14, h⟩ := h
    obtain ⟨e15, a16, ea16, h⟩ := h
    refine r_oald26 C0 hO i14 e15 dX8_wish_65 ?_
    rw [ea16]
    change W _ _ _ _ _ _ _ _ _ _ _ _ _ _ _ (F0 _ _ _ (.ref a16 :: _))
    refine lv_astore C0.1 C0.2.1 dX8_wish_66 hl (by decide) rfl (fun ls hl => ?_)
    refine lv_aload C0.1 C0.2.1 dX8_wish_68 (lv_at hl 0 rfl) ?_
    obtain ⟨i17, h⟩ := h
    refine r_len (k := 21) (t := 1) C0 hO i17 (by decide) rfl dX8_wish_70 ?_
    refine lv_istore C0.1 C0.2.1 dX8_wish_71 hl (by decide) rfl (fun ls hl => ?_)
    refine lv_iconst (v := 0) C0.1 C0.2.1 dX8_wish_73 (by decide) ?_
    refine lv_istore C0.1 C0.2.1 dX8_wish_74 hl (by decide) rfl (fun ls hl => ?_)
    obtain ⟨n9, h⟩ := h
    exact lX8_wish_b76 C0 Y n9 _ _ _ _ _ _ _ _ h hO hS (lv_sub hl [4, 5, 6, 7, 3, 2, 1, 0] rfl)
  · have h := h.2 c4
    refine lv_iconst (v := 0) C0.1 C0.2.1 dX8_wish_46 (by decide) ?_
    exact e_I C0 Y hO hS h (Nat.le_refl _) (Nat.le_refl _) dX8_wish_47
def wX8_wish_b34 (x0 : Nat) (x1 : Int32) (x2 : Int32) (x3 : Int32) (Φ : Hp → Int32 → Prop) (S : Hp) (z0 : Nat) : Prop := wX8_wish_b39 x0 x1 x2 x3 Φ S z0 1
set_option maxHeartbeats 4000000 in
set_option maxRecDepth 100000 in
theorem bX8_wish_b34 {p : Program} {l : Launch} {e : Env} {s : State} {m : MethodId} {args : Array Value} {below : List Frame} {meth : Method} {c : Code} {G : Gw} {x0 : Nat} {x1 : Int32} {x2 : Int32} {x3 : Int32} {Φ : Hp → Int32 → Prop} (C0 : Mx p s m c cX8_wish 9 args yX8_wish.cls G) (Y : My meth (some .int))  : ∀ (S : Hp) (z0 : Nat) (H : Heap) (locs : List Loc) (ls : Array Slot), wX8_wish_b34 x0 x1 x2 x3 Φ S z0 → Ok G S H → va_S (Ab G.b) s.heap H locs → lv_has ls 9 [(0, .ref x0), (1, .int x1), (2, .int x2), (3, .int x3)] → W p l e rm_X8_wish s m args below meth c H locs 0 0 (MQ below (gQ G (PI Φ)) args s rm_X8_wish.cells rm_X8_wish.slots (Ab G.b)) (F0 m 34 ls [.ref z0]) := by
  intro S z0 H locs ls h hO hS hl
  unfold wX8_wish_b34 at h
  refine lv_iconst (v := 1) C0.1 C0.2.1 dX8_wish_34 (by decide) ?_
  refine lv_goto (tgt := 39) C0.1 C0.2.1 dX8_wish_35 (by decide) ?_
  exact bX8_wish_b39 C0 Y _ _ _ _ _ _ h hO hS (lv_sub hl [0, 1, 2, 3] rfl)
def wX8_wish_b0 (x0 : Nat) (x1 : Int32) (x2 : Int32) (x3 : Int32) (Φ : Hp → Int32 → Prop) (S : Hp) : Prop := isA S x0 8 ∧ wX8_isNoCam S x0 x1 (fun S1 r2 => isA S1 x0 8 ∧ wX8_isThrown S1 x0 r2 1 (fun S4 r5 => ((¬ r5 = 0 → Φ S4 0) ∧ (r5 = 0 → wX8_isIn S4 x2 0 23 (fun S8 r9 => ((r9 = 0 → wX8_wish_b34 x0 x1 x2 x3 Φ S8 x0) ∧ (¬ (r9 = 0) → wX8_isIn S8 x3 (-1) 99 (fun S11 r12 => ((¬ r12 = 0 → wX8_wish_b39 x0 x1 x2 x3 Φ S11 x0 0) ∧ (r12 = 0 → wX8_wish_b34 x0 x1 x2 x3 Φ S11 x0))))))))))
set_option maxHeartbeats 4000000 in
set_option maxRecDepth 100000 in
theorem bX8_wish_b0 {p : Program} {l : Launch} {e : Env} {s : State} {m : MethodId} {args : Array Value} {below : List Frame} {meth : Method} {c : Code} {G : Gw} {x0 : Nat} {x1 : Int32} {x2 : Int32} {x3 : Int32} {Φ : Hp → Int32 → Prop} (C0 : Mx p s m c cX8_wish 9 args yX8_wish.cls G) (Y : My meth (some .int))  : ∀ (S : Hp) (H : Heap) (locs : List Loc) (ls : Array Slot), wX8_wish_b0 x0 x1 x2 x3 Φ S → Ok G S H → va_S (Ab G.b) s.heap H locs → lv_has ls 9 [(0, .ref x0), (1, .int x1), (2, .int x2), (3, .int x3)] → W p l e rm_X8_wish s m args below meth c H locs 0 0 (MQ below (gQ G (PI Φ)) args s rm_X8_wish.cells rm_X8_wish.slots (Ab G.b)) (F0 m 0 ls []) := by
  intro S H locs ls h hO hS hl
  unfold wX8_wish_b0 at h
  refine lv_aload_n C0.1 C0.2.1 dX8_wish_0 rfl (lv_at hl 0 rfl) ?_
  refine lv_aload_n C0.1 C0.2.1 dX8_wish_1 rfl (lv_at hl 0 rfl) ?_
  refine lv_iload_n C0.1 C0.2.1 dX8_wish_2 rfl (lv_at hl 1 rfl) ?_
  obtain ⟨i3, h⟩ := h
  refine c_V C0 hO hS (mX8_isNoCam h) i3 (by decide) rfl rfl tb_1642 tb_1644 tb_59 tb_81 tb_1645 hd_X8_isNoCam rfl ⟨⟨by decide, by decide⟩, by decide, by decide⟩ hl.1 rfl (Nat.le_of_ble_eq_true rfl) dX8_wish_3 (kI (fun r2 S1 H locs h hO hS => ?_))
  refine lv_iconst (v := 1) C0.1 C0.2.1 dX8_wish_6 (by decide) ?_
  obtain ⟨i6, h⟩ := h
  refine c_V C0 hO hS (mX8_isThrown h) i6 (by decide) rfl rfl tb_1451 tb_1453 tb_37 tb_81 tb_1454 hd_X8_isThrown rfl ⟨⟨by decide, by decide⟩, by decide, by decide⟩ hl.1 rfl (Nat.le_of_ble_eq_true rfl) dX8_wish_7 (kI (fun r5 S4 H locs h hO hS => ?_))
  refine lv_if_ne (tgt := 46) C0.1 C0.2.1 dX8_wish_10 (by decide) (fun c7 => ?_) (fun c7 => ?_)
  · have h := h.1 c7
    refine lv_iconst (v := 0) C0.1 C0.2.1 dX8_wish_46 (by decide) ?_
    exact e_I C0 Y hO hS h (Nat.le_refl _) (Nat.le_refl _) dX8_wish_47
  · have h := h.2 c7
    refine lv_aload_n C0.1 C0.2.1 dX8_wish_13 rfl (lv_at hl 0 rfl) ?_
    refine lv_iload_n C0.1 C0.2.1 dX8_wish_14 rfl (lv_at hl 2 rfl) ?_
    refine lv_iconst (v := 0) C0.1 C0.2.1 dX8_wish_15 (by decide) ?_
    refine lv_bipush (v := 23) C0.1 C0.2.1 dX8_wish_16 (by decide) ?_
    refine c_S C0 hO hS (mX8_isIn h) tb_1463 tb_1464 tb_81 tb_1465 hd_X8_isIn rfl ⟨⟨by decide, by decide⟩, by decide, by decide⟩ hl.1 rfl (Nat.le_of_ble_eq_true rfl) dX8_wish_18 (kI (fun r9 S8 H locs h hO hS => ?_))
    refine lv_if_eq (tgt := 34) C0.1 C0.2.1 dX8_wish_21 (by decide) (fun c10 => ?_) (fun c10 => ?_)
    · have h := h.1 c10
      exact bX8_wish_b34 C0 Y _ _ _ _ _ h hO hS (lv_sub hl [0, 1, 2, 3] rfl)
    · have h := h.2 c10
      refine lv_iload_n C0.1 C0.2.1 dX8_wish_24 rfl (lv_at hl 3 rfl) ?_
      refine lv_iconst (v := (-1)) C0.1 C0.2.1 dX8_wish_25 (by decide) ?_
      refine lv_bipush (v := 99) C0.1 C0.2.1 dX8_wish_26 (by decide) ?_
      refine c_S C0 hO hS (mX8_isIn h) tb_1463 tb_1464 tb_81 tb_1465 hd_X8_isIn rfl ⟨⟨by decide, by decide⟩, by decide, by decide⟩ hl.1 rfl (Nat.le_of_ble_eq_true rfl) dX8_wish_28 (kI (fun r12 S11 H locs h hO hS => ?_))
      refine lv_if_ne (tgt := 38) C0.1 C0.2.1 dX8_wish_31 (by decide) (fun c13 => ?_) (fun c13 => ?_)
      · have h := h.1 c13
        refine lv_iconst (v := 0) C0.1 C0.2.1 dX8_wish_38 (by decide) ?_
        exact bX8_wish_b39 C0 Y _ _ _ _ _ _ h hO hS (lv_sub hl [0, 1, 2, 3] rfl)
      · have h := h.2 c13
        exact bX8_wish_b34 C0 Y _ _ _ _ _ h hO hS (lv_sub hl [0, 1, 2, 3] rfl)
def wX8_wish (S : Hp) (x0 : Nat) (x1 : Int32) (x2 : Int32) (x3 : Int32) (Φ : Hp → Int32 → Prop) : Prop := wX8_wish_b0 x0 x1 x2 x3 Φ S
set_option maxRecDepth 100000 in
theorem mX8_wish {l : Launch} {G : Gw} {S : Hp} {x0 : Nat} {x1 : Int32} {x2 : Int32} {x3 : Int32} {Φ : Hp → Int32 → Prop} (h : wX8_wish S x0 x1 x2 x3 Φ) : gM l yX8_wish cX8_wish 9 (some .int) rm_X8_wish [.ref x0, .int x1, .int x2, .int x3] G S (PI Φ) := by
  unfold gM
  refine Met.ofW (cc := cX8_wish) (maxL := 9) (ret := (some .int)) (by decide) rfl ?_
  intro p e s m args below meth c s₁ B hml hv
  obtain ⟨rfl, hw⟩ := hv
  obtain ⟨C0, Y, hO⟩ := mx_of B hml hw
  have hS : va_S (Ab G.b) s.heap s.heap [] := va_S.rf
  have hl := lv_entry ([.ref x0, .int x1, .int x2, .int x3]) (n := 9) (Nat.le_of_ble_eq_true rfl)
  rw [lg_entry_eq]
  generalize (lg_sl ([.ref x0, .int x1, .int x2, .int x3]) ++ List.replicate (9 - (lg_sl ([.ref x0, .int x1, .int x2, .int x3])).length) Slot.unset).toArray = ls at hl ⊢
  have hl : lv_has ls 9 [(0, .ref x0), (1, .int x1), (2, .int x2), (3, .int x3)] := hl
  exact bX8_wish_b0 C0 Y S _ _ _ h hO hS hl

def rm_X8_make : Room := { frames := 2, cells := 0, slots := 0, locals := 43 }
def wX8_make_b183 (x0 : Nat) (x1 : Int32) (x2 : Int32) (x3 : Int32) (Φ : Hp → Int32 → Prop) (k79 : Hp → Int32 → Int32 → Int32 → Prop) (S : Hp) (v4 : Int32) (v5 : Int32) (v6 : Int32) : Prop := k79 S v4 v5 (v6 + 1)
set_option maxHeartbeats 4000000 in
set_option maxRecDepth 100000 in
theorem bX8_make_b183 {p : Program} {l : Launch} {e : Env} {s : State} {m : MethodId} {args : Array Value} {below : List Frame} {meth : Method} {c : Code} {G : Gw} {x0 : Nat} {x1 : Int32} {x2 : Int32} {x3 : Int32} {Φ : Hp → Int32 → Prop} (C0 : Mx p s m c cX8_make 8 args yX8_make.cls G) (Y : My meth (some .int)) {k79 : Hp → Int32 → Int32 → Int32 → Prop} (hk79 : ∀ (S : Hp) (v4 : Int32) (v5 : Int32) (v6 : Int32) (H : Heap) (locs : List Loc) (ls : Array Slot), k79 S v4 v5 v6 → Ok G S H → va_S (Ab G.b) s.heap H locs → lv_has ls 8 [(0, .ref x0), (1, .int x1), (2, .int x2), (3, .int x3), (4, .int v4), (5, .int v5), (6, .int v6)] → W p l e rm_X8_make s m args below meth c H locs 0 0 (MQ below (gQ G (PI Φ)) args s rm_X8_make.cells rm_X8_make.slots (Ab G.b)) (F0 m 79 ls [])) : ∀ (S : Hp) (v4 : Int32) (v5 : Int32) (v6 : Int32) (H : Heap) (locs : List Loc) (ls : Array Slot), wX8_make_b183 x0 x1 x2 x3 Φ k79 S v4 v5 v6 → Ok G S H → va_S (Ab G.b) s.heap H locs → lv_has ls 8 [(0, .ref x0), (1, .int x1), (2, .int x2), (3, .int x3), (4, .int v4), (5, .int v5), (6, .int v6)] → W p l e rm_X8_make s m args below meth c H locs 0 0 (MQ below (gQ G (PI Φ)) args s rm_X8_make.cells rm_X8_make.slots (Ab G.b)) (F0 m 183 ls []) := by
  intro S v4 v5 v6 H locs ls h hO hS hl
  unfold wX8_make_b183 at h
  refine lv_iinc (v := _ + 1) C0.1 C0.2.1 dX8_make_183 hl (k := 6) rfl rfl (by decide) rfl (fun ls hl => ?_)
  refine lv_goto (tgt := 79) C0.1 C0.2.1 dX8_make_186 (by decide) ?_
  exact hk79 _ _ _ _ _ _ _ h hO hS (lv_sub hl [1, 2, 3, 4, 5, 6, 0] rfl)
def wX8_make_b181 (x0 : Nat) (x1 : Int32) (x2 : Int32) (x3 : Int32) (Φ : Hp → Int32 → Prop) (k79 : Hp → Int32 → Int32 → Int32 → Prop) (S : Hp) (v4 : Int32) (v6 : Int32) (z0 : Int32) : Prop := wX8_make_b183 x0 x1 x2 x3 Φ k79 S v4 z0 v6
set_option maxHeartbeats 4000000 in
set_option maxRecDepth 100000 in
theorem bX8_make_b181 {p : Program} {l : Launch} {e : Env} {s : State} {m : MethodId} {args : Array Value} {below : List Frame} {meth : Method} {c : Code} {G : Gw} {x0 : Nat} {x1 : Int32} {x2 : Int32} {x3 : Int32} {Φ : Hp → Int32 → Prop} (C0 : Mx p s m c cX8_make 8 args yX8_make.cls G) (Y : My meth (some .int)) {k79 : Hp → Int32 → Int32 → Int32 → Prop} (hk79 : ∀ (S : Hp) (v4 : Int32) (v5 : Int32) (v6 : Int32) (H : Heap) (locs : List Loc) (ls : Array Slot), k79 S v4 v5 v6 → Ok G S H → va_S (Ab G.b) s.heap H locs → lv_has ls 8 [(0, .ref x0), (1, .int x1), (2, .int x2), (3, .int x3), (4, .int v4), (5, .int v5), (6, .int v6)] → W p l e rm_X8_make s m args below meth c H locs 0 0 (MQ below (gQ G (PI Φ)) args s rm_X8_make.cells rm_X8_make.slots (Ab G.b)) (F0 m 79 ls [])) : ∀ (S : Hp) (v4 : Int32) (v6 : Int32) (z0 : Int32) (H : Heap) (locs : List Loc) (ls : Array Slot), wX8_make_b181 x0 x1 x2 x3 Φ k79 S v4 v6 z0 → Ok G S H → va_S (Ab G.b) s.heap H locs → lv_has ls 8 [(0, .ref x0), (1, .int x1), (2, .int x2), (3, .int x3), (4, .int v4), (6, .int v6)] → W p l e rm_X8_make s m args below meth c H locs 0 0 (MQ below (gQ G (PI Φ)) args s rm_X8_make.cells rm_X8_make.slots (Ab G.b)) (F0 m 181 ls [.int z0]) := by
  intro S v4 v6 z0 H locs ls h hO hS hl
  unfold wX8_make_b181 at h
  refine lv_istore C0.1 C0.2.1 dX8_make_181 hl (by decide) rfl (fun ls hl => ?_)
  exact bX8_make_b183 C0 Y hk79 _ _ _ _ _ _ _ h hO hS (lv_sub hl [1, 2, 3, 4, 5, 0, 6] rfl)
def wX8_make_b165 (x0 : Nat) (x1 : Int32) (x2 : Int32) (x3 : Int32) (Φ : Hp → Int32 → Prop) (k79 : Hp → Int32 → Int32 → Int32 → Prop) (S : Hp) (v6 : Int32) (z0 : Int32) (z1 : Int32) : Prop := ((¬ v6 = 24 → wX8_make_b181 x0 x1 x2 x3 Φ k79 S (z0 &&& z1) v6 v6) ∧ (v6 = 24 → wX8_make_b181 x0 x1 x2 x3 Φ k79 S (z0 &&& z1) v6 0))
set_option maxHeartbeats 4000000 in
set_option maxRecDepth 100000 in
theorem bX8_make_b165 {p : Program} {l : Launch} {e : Env} {s : State} {m : MethodId} {args : Array Value} {below : List Frame} {meth : Method} {c : Code} {G : Gw} {x0 : Nat} {x1 : Int32} {x2 : Int32} {x3 : Int32} {Φ : Hp → Int32 → Prop} (C0 : Mx p s m c cX8_make 8 args yX8_make.cls G) (Y : My meth (some .int)) {k79 : Hp → Int32 → Int32 → Int32 → Prop} (hk79 : ∀ (S : Hp) (v4 : Int32) (v5 : Int32) (v6 : Int32) (H : Heap) (locs : List Loc) (ls : Array Slot), k79 S v4 v5 v6 → Ok G S H → va_S (Ab G.b) s.heap H locs → lv_has ls 8 [(0, .ref x0), (1, .int x1), (2, .int x2), (3, .int x3), (4, .int v4), (5, .int v5), (6, .int v6)] → W p l e rm_X8_make s m args below meth c H locs 0 0 (MQ below (gQ G (PI Φ)) args s rm_X8_make.cells rm_X8_make.slots (Ab G.b)) (F0 m 79 ls [])) : ∀ (S : Hp) (v6 : Int32) (z0 : Int32) (z1 : Int32) (H : Heap) (locs : List Loc) (ls : Array Slot), wX8_make_b165 x0 x1 x2 x3 Φ k79 S v6 z0 z1 → Ok G S H → va_S (Ab G.b) s.heap H locs → lv_has ls 8 [(0, .ref x0), (1, .int x1), (2, .int x2), (3, .int x3), (6, .int v6)] → W p l e rm_X8_make s m args below meth c H locs 0 0 (MQ below (gQ G (PI Φ)) args s rm_X8_make.cells rm_X8_make.slots (Ab G.b)) (F0 m 165 ls [.int z1, .int z0]) := by
  intro S v6 z0 z1 H locs ls h hO hS hl
  unfold wX8_make_b165 at h
  refine lv_iand C0.1 C0.2.1 dX8_make_165 ?_
  refine lv_istore C0.1 C0.2.1 dX8_make_166 hl (by decide) rfl (fun ls hl => ?_)
  refine lv_iload C0.1 C0.2.1 dX8_make_168 (lv_at hl 5 rfl) ?_
  refine lv_bipush (v := 24) C0.1 C0.2.1 dX8_make_170 (by decide) ?_
  refine lv_icmp_ne (tgt := 179) C0.1 C0.2.1 dX8_make_172 (by decide) (fun c1 => ?_) (fun c1 => ?_)
  · have h := h.1 c1
    refine lv_iload C0.1 C0.2.1 dX8_make_179 (lv_at hl 5 rfl) ?_
    exact bX8_make_b181 C0 Y hk79 _ _ _ _ _ _ _ h hO hS (lv_sub hl [1, 2, 3, 4, 0, 5] rfl)
  · have h := h.2 c1
    refine lv_iconst (v := 0) C0.1 C0.2.1 dX8_make_175 (by decide) ?_
    refine lv_goto (tgt := 181) C0.1 C0.2.1 dX8_make_176 (by decide) ?_
    exact bX8_make_b181 C0 Y hk79 _ _ _ _ _ _ _ h hO hS (lv_sub hl [1, 2, 3, 4, 0, 5] rfl)
def wX8_make_b149 (x0 : Nat) (x1 : Int32) (x2 : Int32) (x3 : Int32) (Φ : Hp → Int32 → Prop) (k79 : Hp → Int32 → Int32 → Int32 → Prop) (S : Hp) (v5 : Int32) (v6 : Int32) (z0 : Int32) (z1 : Int32) (z2 : Int32) : Prop := (((x3 * (v6 - v5)) < (z1 * z2) → wX8_make_b165 x0 x1 x2 x3 Φ k79 S v6 z0 0) ∧ (¬ ((x3 * (v6 - v5)) < (z1 * z2)) → wX8_make_b165 x0 x1 x2 x3 Φ k79 S v6 z0 1))
set_option maxHeartbeats 4000000 in
set_option maxRecDepth 100000 in
theorem bX8_make_b149 {p : Program} {l : Launch} {e : Env} {s : State} {m : MethodId} {args : Array Value} {below : List Frame} {meth : Method} {c : Code} {G : Gw} {x0 : Nat} {x1 : Int32} {x2 : Int32} {x3 : Int32} {Φ : Hp → Int32 → Prop} (C0 : Mx p s m c cX8_make 8 args yX8_make.cls G) (Y : My meth (some .int)) {k79 : Hp → Int32 → Int32 → Int32 → Prop} (hk79 : ∀ (S : Hp) (v4 : Int32) (v5 : Int32) (v6 : Int32) (H : Heap) (locs : List Loc) (ls : Array Slot), k79 S v4 v5 v6 → Ok G S H → va_S (Ab G.b) s.heap H locs → lv_has ls 8 [(0, .ref x0), (1, .int x1), (2, .int x2), (3, .int x3), (4, .int v4), (5, .int v5), (6, .int v6)] → W p l e rm_X8_make s m args below meth c H locs 0 0 (MQ below (gQ G (PI Φ)) args s rm_X8_make.cells rm_X8_make.slots (Ab G.b)) (F0 m 79 ls [])) : ∀ (S : Hp) (v5 : Int32) (v6 : Int32) (z0 : Int32) (z1 : Int32) (z2 : Int32) (H : Heap) (locs : List Loc) (ls : Array Slot), wX8_make_b149 x0 x1 x2 x3 Φ k79 S v5 v6 z0 z1 z2 → Ok G S H → va_S (Ab G.b) s.heap H locs → lv_has ls 8 [(0, .ref x0), (1, .int x1), (2, .int x2), (3, .int x3), (5, .int v5), (6, .int v6)] → W p l e rm_X8_make s m args below meth c H locs 0 0 (MQ below (gQ G (PI Φ)) args s rm_X8_make.cells rm_X8_make.slots (Ab G.b)) (F0 m 149 ls [.int z2, .int z1, .int z0]) := by
  intro S v5 v6 z0 z1 z2 H locs ls h hO hS hl
  unfold wX8_make_b149 at h
  refine lv_imul C0.1 C0.2.1 dX8_make_149 ?_
  refine lv_iload_n C0.1 C0.2.1 dX8_make_150 rfl (lv_at hl 3 rfl) ?_
  refine lv_iload C0.1 C0.2.1 dX8_make_151 (lv_at hl 5 rfl) ?_
  refine lv_iload C0.1 C0.2.1 dX8_make_153 (lv_at hl 4 rfl) ?_
  refine lv_isub C0.1 C0.2.1 dX8_make_155 ?_
  refine lv_imul C0.1 C0.2.1 dX8_make_156 ?_
  refine lv_icmp_gt (tgt := 164) C0.1 C0.2.1 dX8_make_157 (by decide) (fun c1 => ?_) (fun c1 => ?_)
  · have h := h.1 c1
    refine lv_iconst (v := 0) C0.1 C0.2.1 dX8_make_164 (by decide) ?_
    exact bX8_make_b165 C0 Y hk79 _ _ _ _ _ _ _ h hO hS (lv_sub hl [0, 1, 2, 3, 5] rfl)
  · have h := h.2 c1
    refine lv_iconst (v := 1) C0.1 C0.2.1 dX8_make_160 (by decide) ?_
    refine lv_goto (tgt := 165) C0.1 C0.2.1 dX8_make_161 (by decide) ?_
    exact bX8_make_b165 C0 Y hk79 _ _ _ _ _ _ _ h hO hS (lv_sub hl [0, 1, 2, 3, 5] rfl)
def wX8_make_b113 (x0 : Nat) (x1 : Int32) (x2 : Int32) (x3 : Int32) (Φ : Hp → Int32 → Prop) (k79 : Hp → Int32 → Int32 → Int32 → Prop) (S : Hp) (v4 : Int32) (v5 : Int32) (v6 : Int32) (z0 : Int32) : Prop := ((z0 = (-1) → wX8_make_b183 x0 x1 x2 x3 Φ k79 S v4 v5 v6) ∧ (¬ (z0 = (-1)) → isA S x0 8 ∧ ∃ a3, S.FR 539 x0 = some a3 ∧ isA S a3 26 ∧ vp_in x1 (S.N a3) ∧ ∃ a6, S.AR a3 x1.toNatClampNeg = some a6 ∧ isA S a6 21 ∧ vp_in v5 (S.N a6) ∧ ((¬ x2 = 112 → wX8_make_b149 x0 x1 x2 x3 Φ k79 S v5 v6 v4 (if 0 ≤ (z0 - (S.AI a6 v5.toNatClampNeg)) then (z0 - (S.AI a6 v5.toNatClampNeg)) else 0 - (z0 - (S.AI a6 v5.toNatClampNeg))) 1) ∧ (x2 = 112 → wX8_make_b149 x0 x1 x2 x3 Φ k79 S v5 v6 v4 (if 0 ≤ (z0 - (S.AI a6 v5.toNatClampNeg)) then (z0 - (S.AI a6 v5.toNatClampNeg)) else 0 - (z0 - (S.AI a6 v5.toNatClampNeg))) 2))))
set_option maxHeartbeats 4000000 in
set_option maxRecDepth 100000 in
theorem bX8_make_b113 {p : Program} {l : Launch} {e : Env} {s : State} {m : MethodId} {args : Array Value} {below : List Frame} {meth : Method} {c : Code} {G : Gw} {x0 : Nat} {x1 : Int32} {x2 : Int32} {x3 : Int32} {Φ : Hp → Int32 → Prop} (C0 : Mx p s m c cX8_make 8 args yX8_make.cls G) (Y : My meth (some .int)) {k79 : Hp → Int32 → Int32 → Int32 → Prop} (hk79 : ∀ (S : Hp) (v4 : Int32) (v5 : Int32) (v6 : Int32) (H : Heap) (locs : List Loc) (ls : Array Slot), k79 S v4 v5 v6 → Ok G S H → va_S (Ab G.b) s.heap H locs → lv_has ls 8 [(0, .ref x0), (1, .int x1), (2, .int x2), (3, .int x3), (4, .int v4), (5, .int v5), (6, .int v6)] → W p l e rm_X8_make s m args below meth c H locs 0 0 (MQ below (gQ G (PI Φ)) args s rm_X8_make.cells rm_X8_make.slots (Ab G.b)) (F0 m 79 ls [])) : ∀ (S : Hp) (v4 : Int32) (v5 : Int32) (v6 : Int32) (z0 : Int32) (H : Heap) (locs : List Loc) (ls : Array Slot), wX8_make_b113 x0 x1 x2 x3 Φ k79 S v4 v5 v6 z0 → Ok G S H → va_S (Ab G.b) s.heap H locs → lv_has ls 8 [(0, .ref x0), (1, .int x1), (2, .int x2), (3, .int x3), (4, .int v4), (5, .int v5), (6, .int v6)] → W p l e rm_X8_make s m args below meth c H locs 0 0 (MQ below (gQ G (PI Φ)) args s rm_X8_make.cells rm_X8_make.slots (Ab G.b)) (F0 m 113 ls [.int z0]) := by
  intro S v4 v5 v6 z0 H locs ls h hO hS hl
  unfold wX8_make_b113 at h
  refine lv_istore C0.1 C0.2.1 dX8_make_113 hl (by decide) rfl (fun ls hl => ?_)
  refine lv_iload C0.1 C0.2.1 dX8_make_115 (lv_at hl 0 rfl) ?_
  refine lv_iconst (v := (-1)) C0.1 C0.2.1 dX8_make_117 (by decide) ?_
  refine lv_icmp_eq (tgt := 183) C0.1 C0.2.1 dX8_make_118 (by decide) (fun c1 => ?_) (fun c1 => ?_)
  · have h := h.1 c1
    exact bX8_make_b183 C0 Y hk79 _ _ _ _ _ _ _ h hO hS (lv_sub hl [1, 2, 3, 4, 5, 6, 7] rfl)
  · have h := h.2 c1
    refine lv_iload C0.1 C0.2.1 dX8_make_121 (lv_at hl 5 rfl) ?_
    refine lv_iload C0.1 C0.2.1 dX8_make_123 (lv_at hl 0 rfl) ?_
    refine lv_aload_n C0.1 C0.2.1 dX8_make_125 rfl (lv_at hl 1 rfl) ?_
    obtain ⟨i2, h⟩ := h
    obtain ⟨a3, ea3, h⟩ := h
    refine g8_27 C0 hO i2 ea3 tb_1355 dX8_make_126 ?_
    refine lv_iload_n C0.1 C0.2.1 dX8_make_129 rfl (lv_at hl 2 rfl) ?_
    obtain ⟨i4, h⟩ := h
    obtain ⟨e5, a6, ea6, h⟩ := h
    refine r_oald26 C0 hO i4 e5 dX8_make_130 ?_
    rw [ea6]
    change W _ _ _ _ _ _ _ _ _ _ _ _ _ _ _ (F0 _ _ _ (.ref a6 :: _))
    refine lv_iload C0.1 C0.2.1 dX8_make_131 (lv_at hl 6 rfl) ?_
    obtain ⟨i7, h⟩ := h
    obtain ⟨e8, h⟩ := h
    refine r_iald C0 hO i7 e8 dX8_make_133 ?_
    refine lv_isub C0.1 C0.2.1 dX8_make_134 ?_
    refine va_mabs C0.1 C0.2.1 (C0.2.2.1.trans hl.1.symm) C0.2.2.2.1 (C0.2.2.2.2.1 _ tb_1526) (C0.2.2.2.2.1 _ tb_303) (C0.2.2.2.2.1 _ tb_94) (C0.2.2.2.2.1 _ tb_304) (Nat.le_of_ble_eq_true rfl) (Nat.le_of_ble_eq_true rfl) (by decide) (by decide) dX8_make_135 ?_
    refine lv_iload_n C0.1 C0.2.1 dX8_make_138 rfl (lv_at hl 3 rfl) ?_
    refine lv_bipush (v := 112) C0.1 C0.2.1 dX8_make_139 (by decide) ?_
    refine lv_icmp_ne (tgt := 148) C0.1 C0.2.1 dX8_make_141 (by decide) (fun c9 => ?_) (fun c9 => ?_)
    · have h := h.1 c9
      refine lv_iconst (v := 1) C0.1 C0.2.1 dX8_make_148 (by decide) ?_
      exact bX8_make_b149 C0 Y hk79 _ _ _ _ _ _ _ _ _ h hO hS (lv_sub hl [1, 2, 3, 4, 6, 7] rfl)
    · have h := h.2 c9
      refine lv_iconst (v := 2) C0.1 C0.2.1 dX8_make_144 (by decide) ?_
      refine lv_goto (tgt := 149) C0.1 C0.2.1 dX8_make_145 (by decide) ?_
      exact bX8_make_b149 C0 Y hk79 _ _ _ _ _ _ _ _ _ h hO hS (lv_sub hl [1, 2, 3, 4, 6, 7] rfl)
def wX8_make_b281 (x0 : Nat) (x1 : Int32) (x2 : Int32) (x3 : Int32) (Φ : Hp → Int32 → Prop) (k222 : Hp → Int32 → Int32 → Prop) (S : Hp) (v5 : Int32) (v6 : Int32) : Prop := k222 S v5 (v6 + 1)
set_option maxHeartbeats 4000000 in
set_option maxRecDepth 100000 in
theorem bX8_make_b281 {p : Program} {l : Launch} {e : Env} {s : State} {m : MethodId} {args : Array Value} {below : List Frame} {meth : Method} {c : Code} {G : Gw} {x0 : Nat} {x1 : Int32} {x2 : Int32} {x3 : Int32} {Φ : Hp → Int32 → Prop} (C0 : Mx p s m c cX8_make 8 args yX8_make.cls G) (Y : My meth (some .int)) {k222 : Hp → Int32 → Int32 → Prop} (hk222 : ∀ (S : Hp) (v5 : Int32) (v6 : Int32) (H : Heap) (locs : List Loc) (ls : Array Slot), k222 S v5 v6 → Ok G S H → va_S (Ab G.b) s.heap H locs → lv_has ls 8 [(0, .ref x0), (1, .int x1), (2, .int x2), (3, .int x3), (5, .int v5), (6, .int v6)] → W p l e rm_X8_make s m args below meth c H locs 0 0 (MQ below (gQ G (PI Φ)) args s rm_X8_make.cells rm_X8_make.slots (Ab G.b)) (F0 m 222 ls [])) : ∀ (S : Hp) (v5 : Int32) (v6 : Int32) (H : Heap) (locs : List Loc) (ls : Array Slot), wX8_make_b281 x0 x1 x2 x3 Φ k222 S v5 v6 → Ok G S H → va_S (Ab G.b) s.heap H locs → lv_has ls 8 [(0, .ref x0), (1, .int x1), (2, .int x2), (3, .int x3), (5, .int v5), (6, .int v6)] → W p l e rm_X8_make s m args below meth c H locs 0 0 (MQ below (gQ G (PI Φ)) args s rm_X8_make.cells rm_X8_make.slots (Ab G.b)) (F0 m 281 ls []) := by
  intro S v5 v6 H locs ls h hO hS hl
  unfold wX8_make_b281 at h
  refine lv_iinc (v := _ + 1) C0.1 C0.2.1 dX8_make_281 hl (k := 5) rfl rfl (by decide) rfl (fun ls hl => ?_)
  refine lv_goto (tgt := 222) C0.1 C0.2.1 dX8_make_284 (by decide) ?_
  exact hk222 _ _ _ _ _ _ h hO hS (lv_sub hl [1, 2, 3, 4, 5, 0] rfl)
def wX8_make_b256 (x0 : Nat) (x1 : Int32) (x2 : Int32) (x3 : Int32) (Φ : Hp → Int32 → Prop) (k222 : Hp → Int32 → Int32 → Prop) (S : Hp) (v5 : Int32) (v6 : Int32) (z0 : Int32) : Prop := ((z0 = (-1) → wX8_make_b281 x0 x1 x2 x3 Φ k222 S v5 v6) ∧ (¬ (z0 = (-1)) → isA S x0 8 ∧ wX8_adds S x0 x1 (v6 - v5) z0 x2 (fun S2 => wX8_make_b281 x0 x1 x2 x3 Φ k222 S2 v6 v6)))
set_option maxHeartbeats 4000000 in
set_option maxRecDepth 100000 in
theorem bX8_make_b256 {p : Program} {l : Launch} {e : Env} {s : State} {m : MethodId} {args : Array Value} {below : List Frame} {meth : Method} {c : Code} {G : Gw} {x0 : Nat} {x1 : Int32} {x2 : Int32} {x3 : Int32} {Φ : Hp → Int32 → Prop} (C0 : Mx p s m c cX8_make 8 args yX8_make.cls G) (Y : My meth (some .int)) {k222 : Hp → Int32 → Int32 → Prop} (hk222 : ∀ (S : Hp) (v5 : Int32) (v6 : Int32) (H : Heap) (locs : List Loc) (ls : Array Slot), k222 S v5 v6 → Ok G S H → va_S (Ab G.b) s.heap H locs → lv_has ls 8 [(0, .ref x0), (1, .int x1), (2, .int x2), (3, .int x3), (5, .int v5), (6, .int v6)] → W p l e rm_X8_make s m args below meth c H locs 0 0 (MQ below (gQ G (PI Φ)) args s rm_X8_make.cells rm_X8_make.slots (Ab G.b)) (F0 m 222 ls [])) : ∀ (S : Hp) (v5 : Int32) (v6 : Int32) (z0 : Int32) (H : Heap) (locs : List Loc) (ls : Array Slot), wX8_make_b256 x0 x1 x2 x3 Φ k222 S v5 v6 z0 → Ok G S H → va_S (Ab G.b) s.heap H locs → lv_has ls 8 [(0, .ref x0), (1, .int x1), (2, .int x2), (3, .int x3), (5, .int v5), (6, .int v6)] → W p l e rm_X8_make s m args below meth c H locs 0 0 (MQ below (gQ G (PI Φ)) args s rm_X8_make.cells rm_X8_make.slots (Ab G.b)) (F0 m 256 ls [.int z0]) := by
  intro S v5 v6 z0 H locs ls h hO hS hl
  unfold wX8_make_b256 at h
  refine lv_istore C0.1 C0.2.1 dX8_make_256 hl (by decide) rfl (fun ls hl => ?_)
  refine lv_iload C0.1 C0.2.1 dX8_make_258 (lv_at hl 0 rfl) ?_
  refine lv_iconst (v := (-1)) C0.1 C0.2.1 dX8_make_260 (by decide) ?_
  refine lv_icmp_eq (tgt := 281) C0.1 C0.2.1 dX8_make_261 (by decide) (fun c1 => ?_) (fun c1 => ?_)
  · have h := h.1 c1
    exact bX8_make_b281 C0 Y hk222 _ _ _ _ _ _ h hO hS (lv_sub hl [1, 2, 3, 4, 5, 6] rfl)
  · have h := h.2 c1
    refine lv_aload_n C0.1 C0.2.1 dX8_make_264 rfl (lv_at hl 1 rfl) ?_
    refine lv_iload_n C0.1 C0.2.1 dX8_make_265 rfl (lv_at hl 2 rfl) ?_
    refine lv_iload C0.1 C0.2.1 dX8_make_266 (lv_at hl 6 rfl) ?_
    refine lv_iload C0.1 C0.2.1 dX8_make_268 (lv_at hl 5 rfl) ?_
    refine lv_isub C0.1 C0.2.1 dX8_make_270 ?_
    refine lv_iload C0.1 C0.2.1 dX8_make_271 (lv_at hl 0 rfl) ?_
    refine lv_iload_n C0.1 C0.2.1 dX8_make_273 rfl (lv_at hl 3 rfl) ?_
    obtain ⟨i3, h⟩ := h
    refine c_V C0 hO hS (mX8_adds h) i3 (by decide) rfl rfl tb_1650 tb_1652 tb_61 tb_81 tb_1653 hd_X8_adds rfl ⟨⟨by decide, by decide⟩, by decide, by decide⟩ hl.1 rfl (Nat.le_of_ble_eq_true rfl) dX8_make_274 (kV (fun S2 H locs h hO hS => ?_))
    refine lv_iload C0.1 C0.2.1 dX8_make_277 (lv_at hl 6 rfl) ?_
    refine lv_istore C0.1 C0.2.1 dX8_make_279 hl (by decide) rfl (fun ls hl => ?_)
    exact bX8_make_b281 C0 Y hk222 _ _ _ _ _ _ h hO hS (lv_sub hl [2, 3, 4, 5, 0, 6] rfl)
def wX8_make_b222 (x0 : Nat) (x1 : Int32) (x2 : Int32) (x3 : Int32) (Φ : Hp → Int32 → Prop) (k222 : Hp → Int32 → Int32 → Prop) (S : Hp) (v5 : Int32) (v6 : Int32) : Prop := ((24 < v6 → isA S x0 8 ∧ ∃ a3, S.FR 535 x0 = some a3 ∧ isA S a3 21 ∧ vp_in x1 (S.N a3) ∧ Φ S (S.AI a3 x1.toNatClampNeg)) ∧ (¬ (24 < v6) → ((¬ v6 = 24 → isA S x0 8 ∧ ∃ a8, S.FR 539 x0 = some a8 ∧ isA S a8 26 ∧ vp_in x1 (S.N a8) ∧ ∃ a11, S.AR a8 x1.toNatClampNeg = some a11 ∧ isA S a11 21 ∧ vp_in v6 (S.N a11) ∧ wX8_make_b256 x0 x1 x2 x3 Φ k222 S v5 v6 (S.AI a11 v6.toNatClampNeg)) ∧ (v6 = 24 → isA S x0 8 ∧ ∃ a15, S.FR 539 x0 = some a15 ∧ isA S a15 26 ∧ vp_in x1 (S.N a15) ∧ ∃ a18, S.AR a15 x1.toNatClampNeg = some a18 ∧ isA S a18 21 ∧ vp_in 0 (S.N a18) ∧ wX8_make_b256 x0 x1 x2 x3 Φ k222 S v5 v6 (S.AI a18 ((0 : Int32).toNatClampNeg))))))
set_option maxHeartbeats 4000000 in
set_option maxRecDepth 100000 in
theorem bX8_make_b222 {p : Program} {l : Launch} {e : Env} {s : State} {m : MethodId} {args : Array Value} {below : List Frame} {meth : Method} {c : Code} {G : Gw} {x0 : Nat} {x1 : Int32} {x2 : Int32} {x3 : Int32} {Φ : Hp → Int32 → Prop} (C0 : Mx p s m c cX8_make 8 args yX8_make.cls G) (Y : My meth (some .int)) {k222 : Hp → Int32 → Int32 → Prop} (hk222 : ∀ (S : Hp) (v5 : Int32) (v6 : Int32) (H : Heap) (locs : List Loc) (ls : Array Slot), k222 S v5 v6 → Ok G S H → va_S (Ab G.b) s.heap H locs → lv_has ls 8 [(0, .ref x0), (1, .int x1), (2, .int x2), (3, .int x3), (5, .int v5), (6, .int v6)] → W p l e rm_X8_make s m args below meth c H locs 0 0 (MQ below (gQ G (PI Φ)) args s rm_X8_make.cells rm_X8_make.slots (Ab G.b)) (F0 m 222 ls [])) : ∀ (S : Hp) (v5 : Int32) (v6 : Int32) (H : Heap) (locs : List Loc) (ls : Array Slot), wX8_make_b222 x0 x1 x2 x3 Φ k222 S v5 v6 → Ok G S H → va_S (Ab G.b) s.heap H locs → lv_has ls 8 [(0, .ref x0), (1, .int x1), (2, .int x2), (3, .int x3), (5, .int v5), (6, .int v6)] → W p l e rm_X8_make s m args below meth c H locs 0 0 (MQ below (gQ G (PI Φ)) args s rm_X8_make.cells rm_X8_make.slots (Ab G.b)) (F0 m 222 ls []) := by
  intro S v5 v6 H locs ls h hO hS hl
  unfold wX8_make_b222 at h
  refine lv_iload C0.1 C0.2.1 dX8_make_222 (lv_at hl 5 rfl) ?_
  refine lv_bipush (v := 24) C0.1 C0.2.1 dX8_make_224 (by decide) ?_
  refine lv_icmp_gt (tgt := 287) C0.1 C0.2.1 dX8_make_226 (by decide) (fun c1 => ?_) (fun c1 => ?_)
  · have h := h.1 c1
    refine lv_aload_n C0.1 C0.2.1 dX8_make_287 rfl (lv_at hl 0 rfl) ?_
    obtain ⟨i2, h⟩ := h
    obtain ⟨a3, ea3, h⟩ := h
    refine g8_23 C0 hO i2 ea3 tb_1351 dX8_make_288 ?_
    refine lv_iload_n C0.1 C0.2.1 dX8_make_291 rfl (lv_at hl 1 rfl) ?_
    obtain ⟨i4, h⟩ := h
    obtain ⟨e5, h⟩ := h
    refine r_iald C0 hO i4 e5 dX8_make_292 ?_
    exact e_I C0 Y hO hS h (Nat.le_refl _) (Nat.le_refl _) dX8_make_293
  · have h := h.2 c1
    refine lv_iload C0.1 C0.2.1 dX8_make_229 (lv_at hl 5 rfl) ?_
    refine lv_bipush (v := 24) C0.1 C0.2.1 dX8_make_231 (by decide) ?_
    refine lv_icmp_ne (tgt := 247) C0.1 C0.2.1 dX8_make_233 (by decide) (fun c6 => ?_) (fun c6 => ?_)
    · have h := h.1 c6
      refine lv_aload_n C0.1 C0.2.1 dX8_make_247 rfl (lv_at hl 0 rfl) ?_
      obtain ⟨i7, h⟩ := h
      obtain ⟨a8, ea8, h⟩ := h
      refine g8_27 C0 hO i7 ea8 tb_1355 dX8_make_248 ?_
      refine lv_iload_n C0.1 C0.2.1 dX8_make_251 rfl (lv_at hl 1 rfl) ?_
      obtain ⟨i9, h⟩ := h
      obtain ⟨e10, a11, ea11, h⟩ := h
      refine r_oald26 C0 hO i9 e10 dX8_make_252 ?_
      rw [ea11]
      change W _ _ _ _ _ _ _ _ _ _ _ _ _ _ _ (F0 _ _ _ (.ref a11 :: _))
      refine lv_iload C0.1 C0.2.1 dX8_make_253 (lv_at hl 5 rfl) ?_
      obtain ⟨i12, h⟩ := h
      obtain ⟨e13, h⟩ := h
      refine r_iald C0 hO i12 e13 dX8_make_255 ?_
      exact bX8_make_b256 C0 Y hk222 _ _ _ _ _ _ _ h hO hS (lv_sub hl [0, 1, 2, 3, 4, 5] rfl)
    · have h := h.2 c6
      refine lv_aload_n C0.1 C0.2.1 dX8_make_236 rfl (lv_at hl 0 rfl) ?_
      obtain ⟨i14, h⟩ := h
      obtain ⟨a15, ea15, h⟩ := h
      refine g8_27 C0 hO i14 ea15 tb_1355 dX8_make_237 ?_
      refine lv_iload_n C0.1 C0.2.1 dX8_make_240 rfl (lv_at hl 1 rfl) ?_
      obtain ⟨i16, h⟩ := h
      obtain ⟨e17, a18, ea18, h⟩ := h
      refine r_oald26 C0 hO i16 e17 dX8_make_241 ?_
      rw [ea18]
      change W _ _ _ _ _ _ _ _ _ _ _ _ _ _ _ (F0 _ _ _ (.ref a18 :: _))
      refine lv_iconst (v := 0) C0.1 C0.2.1 dX8_make_242 (by decide) ?_
      obtain ⟨i19, h⟩ := h
      obtain ⟨e20, h⟩ := h
      refine r_iald C0 hO i19 e20 dX8_make_243 ?_
      refine lv_goto (tgt := 256) C0.1 C0.2.1 dX8_make_244 (by decide) ?_
      exact bX8_make_b256 C0 Y hk222 _ _ _ _ _ _ _ h hO hS (lv_sub hl [0, 1, 2, 3, 4, 5] rfl)
set_option maxHeartbeats 4000000 in
set_option maxRecDepth 100000 in
theorem lX8_make_b222 {p : Program} {l : Launch} {e : Env} {s : State} {m : MethodId} {args : Array Value} {below : List Frame} {meth : Method} {c : Code} {G : Gw} {x0 : Nat} {x1 : Int32} {x2 : Int32} {x3 : Int32} {Φ : Hp → Int32 → Prop} (C0 : Mx p s m c cX8_make 8 args yX8_make.cls G) (Y : My meth (some .int))  : ∀ n9 : Nat, ∀ (S : Hp) (v5 : Int32) (v6 : Int32) (H : Heap) (locs : List Loc) (ls : Array Slot), it3 (wX8_make_b222 x0 x1 x2 x3 Φ) n9 S v5 v6 → Ok G S H → va_S (Ab G.b) s.heap H locs → lv_has ls 8 [(0, .ref x0), (1, .int x1), (2, .int x2), (3, .int x3), (5, .int v5), (6, .int v6)] → W p l e rm_X8_make s m args below meth c H locs 0 0 (MQ below (gQ G (PI Φ)) args s rm_X8_make.cells rm_X8_make.slots (Ab G.b)) (F0 m 222 ls []) := by
  intro n9
  induction n9 with
  | zero => intro S v5 v6 H locs ls h; exact (h : False).elim
  | succ n9 ih => intro S v5 v6 H locs ls h hO hS hl; exact bX8_make_b222 C0 Y ih S v5 v6 H locs ls h hO hS hl
def wX8_make_b200 (x0 : Nat) (x1 : Int32) (x2 : Int32) (x3 : Int32) (Φ : Hp → Int32 → Prop) (S : Hp) (z0 : Nat) (z1 : Int32) : Prop := isA S z0 8 ∧ wX8_isThrown S z0 z1 4 (fun S1 r2 => ((r2 = 0 → isA S1 x0 8 ∧ ∃ a6, S1.FR 535 x0 = some a6 ∧ isA S1 a6 21 ∧ vp_in x1 (S1.N a6) ∧ ∀ S9, S9 = S1.setAI a6 x1.toNatClampNeg 0 → ∃ n, it3 (wX8_make_b222 x0 x1 x2 x3 Φ) n S9 0 1) ∧ (¬ (r2 = 0) → Φ S1 0)))
set_option maxHeartbeats 4000000 in
set_option maxRecDepth 100000 in
theorem bX8_make_b200 {p : Program} {l : Launch} {e : Env} {s : State} {m : MethodId} {args : Array Value} {below : List Frame} {meth : Method} {c : Code} {G : Gw} {x0 : Nat} {x1 : Int32} {x2 : Int32} {x3 : Int32} {Φ : Hp → Int32 → Prop} (C0 : Mx p s m c cX8_make 8 args yX8_make.cls G) (Y : My meth (some .int))  : ∀ (S : Hp) (z0 : Nat) (z1 : Int32) (H : Heap) (locs : List Loc) (ls : Array Slot), wX8_make_b200 x0 x1 x2 x3 Φ S z0 z1 → Ok G S H → va_S (Ab G.b) s.heap H locs → lv_has ls 8 [(0, .ref x0), (1, .int x1), (2, .int x2), (3, .int x3)] → W p l e rm_X8_make s m args below meth c H locs 0 0 (MQ below (gQ G (PI Φ)) args s rm_X8_make.cells rm_X8_make.slots (Ab G.b)) (F0 m 200 ls [.int z1, .ref z0]) := by
  intro S z0 z1 H locs ls h hO hS hl
  unfold wX8_make_b200 at h
  refine lv_iconst (v := 4) C0.1 C0.2.1 dX8_make_200 (by decide) ?_
  obtain ⟨i3, h⟩ := h
  refine c_V C0 hO hS (mX8_isThrown h) i3 (by decide) rfl rfl tb_1451 tb_1453 tb_37 tb_81 tb_1454 hd_X8_isThrown rfl ⟨⟨by decide, by decide⟩, by decide, by decide⟩ hl.1 rfl (Nat.le_of_ble_eq_true rfl) dX8_make_201 (kI (fun r2 S1 H locs h hO hS => ?_))
  refine lv_if_eq (tgt := 209) C0.1 C0.2.1 dX8_make_204 (by decide) (fun c4 => ?_) (fun c4 => ?_)
  · have h := h.1 c4
    refine lv_aload_n C0.1 C0.2.1 dX8_make_209 rfl (lv_at hl 0 rfl) ?_
    obtain ⟨i5, h⟩ := h
    obtain ⟨a6, ea6, h⟩ := h
    refine g8_23 C0 hO i5 ea6 tb_1351 dX8_make_210 ?_
    refine lv_iload_n C0.1 C0.2.1 dX8_make_213 rfl (lv_at hl 1 rfl) ?_
    refine lv_iconst (v := 0) C0.1 C0.2.1 dX8_make_214 (by decide) ?_
    obtain ⟨i7, h⟩ := h
    obtain ⟨e8, h⟩ := h
    refine r_iast C0 hO hS i7 e8 dX8_make_215 (fun H locs hO hS => ?_)
    have h := h _ rfl
    refine lv_iconst (v := 0) C0.1 C0.2.1 dX8_make_216 (by decide) ?_
    refine lv_istore C0.1 C0.2.1 dX8_make_217 hl (by decide) rfl (fun ls hl => ?_)
    refine lv_iconst (v := 1) C0.1 C0.2.1 dX8_make_219 (by decide) ?_
    refine lv_istore C0.1 C0.2.1 dX8_make_220 hl (by decide) rfl (fun ls hl => ?_)
    obtain ⟨n9, h⟩ := h
    exact lX8_make_b222 C0 Y n9 _ _ _ _ _ _ h hO hS (lv_sub hl [2, 3, 4, 5, 1, 0] rfl)
  · have h := h.2 c4
    refine lv_iconst (v := 0) C0.1 C0.2.1 dX8_make_207 (by decide) ?_
    exact e_I C0 Y hO hS h (Nat.le_refl _) (Nat.le_refl _) dX8_make_208
def wX8_make_b79 (x0 : Nat) (x1 : Int32) (x2 : Int32) (x3 : Int32) (Φ : Hp → Int32 → Prop) (k79 : Hp → Int32 → Int32 → Int32 → Prop) (S : Hp) (v4 : Int32) (v5 : Int32) (v6 : Int32) : Prop := ((24 < v6 → ((¬ v4 = 0 → wX8_make_b200 x0 x1 x2 x3 Φ S x0 0) ∧ (v4 = 0 → wX8_make_b200 x0 x1 x2 x3 Φ S x0 1))) ∧ (¬ (24 < v6) → ((¬ v6 = 24 → isA S x0 8 ∧ ∃ a5, S.FR 539 x0 = some a5 ∧ isA S a5 26 ∧ vp_in x1 (S.N a5) ∧ ∃ a8, S.AR a5 x1.toNatClampNeg = some a8 ∧ isA S a8 21 ∧ vp_in v6 (S.N a8) ∧ wX8_make_b113 x0 x1 x2 x3 Φ k79 S v4 v5 v6 (S.AI a8 v6.toNatClampNeg)) ∧ (v6 = 24 → isA S x0 8 ∧ ∃ a12, S.FR 539 x0 = some a12 ∧ isA S a12 26 ∧ vp_in x1 (S.N a12) ∧ ∃ a15, S.AR a12 x1.toNatClampNeg = some a15 ∧ isA S a15 21 ∧ vp_in 0 (S.N a15) ∧ wX8_make_b113 x0 x1 x2 x3 Φ k79 S v4 v5 v6 (S.AI a15 ((0 : Int32).toNatClampNeg))))))
set_option maxHeartbeats 4000000 in
set_option maxRecDepth 100000 in
theorem bX8_make_b79 {p : Program} {l : Launch} {e : Env} {s : State} {m : MethodId} {args : Array Value} {below : List Frame} {meth : Method} {c : Code} {G : Gw} {x0 : Nat} {x1 : Int32} {x2 : Int32} {x3 : Int32} {Φ : Hp → Int32 → Prop} (C0 : Mx p s m c cX8_make 8 args yX8_make.cls G) (Y : My meth (some .int)) {k79 : Hp → Int32 → Int32 → Int32 → Prop} (hk79 : ∀ (S : Hp) (v4 : Int32) (v5 : Int32) (v6 : Int32) (H : Heap) (locs : List Loc) (ls : Array Slot), k79 S v4 v5 v6 → Ok G S H → va_S (Ab G.b) s.heap H locs → lv_has ls 8 [(0, .ref x0), (1, .int x1), (2, .int x2), (3, .int x3), (4, .int v4), (5, .int v5), (6, .int v6)] → W p l e rm_X8_make s m args below meth c H locs 0 0 (MQ below (gQ G (PI Φ)) args s rm_X8_make.cells rm_X8_make.slots (Ab G.b)) (F0 m 79 ls [])) : ∀ (S : Hp) (v4 : Int32) (v5 : Int32) (v6 : Int32) (H : Heap) (locs : List Loc) (ls : Array Slot), wX8_make_b79 x0 x1 x2 x3 Φ k79 S v4 v5 v6 → Ok G S H → va_S (Ab G.b) s.heap H locs → lv_has ls 8 [(0, .ref x0), (1, .int x1), (2, .int x2), (3, .int x3), (4, .int v4), (5, .int v5), (6, .int v6)] → W p l e rm_X8_make s m args below meth c H locs 0 0 (MQ below (gQ G (PI Φ)) args s rm_X8_make.cells rm_X8_make.slots (Ab G.b)) (F0 m 79 ls []) := by
  intro S v4 v5 v6 H locs ls h hO hS hl
  unfold wX8_make_b79 at h
  refine lv_iload C0.1 C0.2.1 dX8_make_79 (lv_at hl 6 rfl) ?_
  refine lv_bipush (v := 24) C0.1 C0.2.1 dX8_make_81 (by decide) ?_
  refine lv_icmp_gt (tgt := 189) C0.1 C0.2.1 dX8_make_83 (by decide) (fun c1 => ?_) (fun c1 => ?_)
  · have h := h.1 c1
    refine lv_aload_n C0.1 C0.2.1 dX8_make_189 rfl (lv_at hl 0 rfl) ?_
    refine lv_iload C0.1 C0.2.1 dX8_make_190 (lv_at hl 4 rfl) ?_
    refine lv_if_ne (tgt := 199) C0.1 C0.2.1 dX8_make_192 (by decide) (fun c2 => ?_) (fun c2 => ?_)
    · have h := h.1 c2
      refine lv_iconst (v := 0) C0.1 C0.2.1 dX8_make_199 (by decide) ?_
      exact bX8_make_b200 C0 Y _ _ _ _ _ _ h hO hS (lv_sub hl [0, 1, 2, 3] rfl)
    · have h := h.2 c2
      refine lv_iconst (v := 1) C0.1 C0.2.1 dX8_make_195 (by decide) ?_
      refine lv_goto (tgt := 200) C0.1 C0.2.1 dX8_make_196 (by decide) ?_
      exact bX8_make_b200 C0 Y _ _ _ _ _ _ h hO hS (lv_sub hl [0, 1, 2, 3] rfl)
  · have h := h.2 c1
    refine lv_iload C0.1 C0.2.1 dX8_make_86 (lv_at hl 6 rfl) ?_
    refine lv_bipush (v := 24) C0.1 C0.2.1 dX8_make_88 (by decide) ?_
    refine lv_icmp_ne (tgt := 104) C0.1 C0.2.1 dX8_make_90 (by decide) (fun c3 => ?_) (fun c3 => ?_)
    · have h := h.1 c3
      refine lv_aload_n C0.1 C0.2.1 dX8_make_104 rfl (lv_at hl 0 rfl) ?_
      obtain ⟨i4, h⟩ := h
      obtain ⟨a5, ea5, h⟩ := h
      refine g8_27 C0 hO i4 ea5 tb_1355 dX8_make_105 ?_
      refine lv_iload_n C0.1 C0.2.1 dX8_make_108 rfl (lv_at hl 1 rfl) ?_
      obtain ⟨i6, h⟩ := h
      obtain ⟨e7, a8, ea8, h⟩ := h
      refine r_oald26 C0 hO i6 e7 dX8_make_109 ?_
      rw [ea8]
      change W _ _ _ _ _ _ _ _ _ _ _ _ _ _ _ (F0 _ _ _ (.ref a8 :: _))
      refine lv_iload C0.1 C0.2.1 dX8_make_110 (lv_at hl 6 rfl) ?_
      obtain ⟨i9, h⟩ := h
      obtain ⟨e10, h⟩ := h
      refine r_iald C0 hO i9 e10 dX8_make_112 ?_
      exact bX8_make_b113 C0 Y hk79 _ _ _ _ _ _ _ _ h hO hS (lv_sub hl [0, 1, 2, 3, 4, 5, 6] rfl)
    · have h := h.2 c3
      refine lv_aload_n C0.1 C0.2.1 dX8_make_93 rfl (lv_at hl 0 rfl) ?_
      obtain ⟨i11, h⟩ := h
      obtain ⟨a12, ea12, h⟩ := h
      refine g8_27 C0 hO i11 ea12 tb_1355 dX8_make_94 ?_
      refine lv_iload_n C0.1 C0.2.1 dX8_make_97 rfl (lv_at hl 1 rfl) ?_
      obtain ⟨i13, h⟩ := h
      obtain ⟨e14, a15, ea15, h⟩ := h
      refine r_oald26 C0 hO i13 e14 dX8_make_98 ?_
      rw [ea15]
      change W _ _ _ _ _ _ _ _ _ _ _ _ _ _ _ (F0 _ _ _ (.ref a15 :: _))
      refine lv_iconst (v := 0) C0.1 C0.2.1 dX8_make_99 (by decide) ?_
      obtain ⟨i16, h⟩ := h
      obtain ⟨e17, h⟩ := h
      refine r_iald C0 hO i16 e17 dX8_make_100 ?_
      refine lv_goto (tgt := 113) C0.1 C0.2.1 dX8_make_101 (by decide) ?_
      exact bX8_make_b113 C0 Y hk79 _ _ _ _ _ _ _ _ h hO hS (lv_sub hl [0, 1, 2, 3, 4, 5, 6] rfl)
set_option maxHeartbeats 4000000 in
set_option maxRecDepth 100000 in
theorem lX8_make_b79 {p : Program} {l : Launch} {e : Env} {s : State} {m : MethodId} {args : Array Value} {below : List Frame} {meth : Method} {c : Code} {G : Gw} {x0 : Nat} {x1 : Int32} {x2 : Int32} {x3 : Int32} {Φ : Hp → Int32 → Prop} (C0 : Mx p s m c cX8_make 8 args yX8_make.cls G) (Y : My meth (some .int))  : ∀ n9 : Nat, ∀ (S : Hp) (v4 : Int32) (v5 : Int32) (v6 : Int32) (H : Heap) (locs : List Loc) (ls : Array Slot), it4 (wX8_make_b79 x0 x1 x2 x3 Φ) n9 S v4 v5 v6 → Ok G S H → va_S (Ab G.b) s.heap H locs → lv_has ls 8 [(0, .ref x0), (1, .int x1), (2, .int x2), (3, .int x3), (4, .int v4), (5, .int v5), (6, .int v6)] → W p l e rm_X8_make s m args below meth c H locs 0 0 (MQ below (gQ G (PI Φ)) args s rm_X8_make.cells rm_X8_make.slots (Ab G.b)) (F0 m 79 ls []) := by
  intro n9
  induction n9 with
  | zero => intro S v4 v5 v6 H locs ls h; exact (h : False).elim
  | succ n9 ih => intro S v4 v5 v6 H locs ls h hO hS hl; exact bX8_make_b79 C0 Y ih S v4 v5 v6 H locs ls h hO hS hl
def wX8_make_b61 (x0 : Nat) (x1 : Int32) (x2 : Int32) (x3 : Int32) (Φ : Hp → Int32 → Prop) (S : Hp) (z0 : Nat) (z1 : Int32) : Prop := isA S z0 8 ∧ wX8_isThrown S z0 z1 3 (fun S1 r2 => ((r2 = 0 → ∃ n, it4 (wX8_make_b79 x0 x1 x2 x3 Φ) n S1 1 0 1) ∧ (¬ (r2 = 0) → Φ S1 0)))
set_option maxHeartbeats 4000000 in
set_option maxRecDepth 100000 in
theorem bX8_make_b61 {p : Program} {l : Launch} {e : Env} {s : State} {m : MethodId} {args : Array Value} {below : List Frame} {meth : Method} {c : Code} {G : Gw} {x0 : Nat} {x1 : Int32} {x2 : Int32} {x3 : Int32} {Φ : Hp → Int32 → Prop} (C0 : Mx p s m c cX8_make 8 args yX8_make.cls G) (Y : My meth (some .int))  : ∀ (S : Hp) (z0 : Nat) (z1 : Int32) (H : Heap) (locs : List Loc) (ls : Array Slot), wX8_make_b61 x0 x1 x2 x3 Φ S z0 z1 → Ok G S H → va_S (Ab G.b) s.heap H locs → lv_has ls 8 [(0, .ref x0), (1, .int x1), (2, .int x2), (3, .int x3)] → W p l e rm_X8_make s m args below meth c H locs 0 0 (MQ below (gQ G (PI Φ)) args s rm_X8_make.cells rm_X8_make.slots (Ab G.b)) (F0 m 61 ls [.int z1, .ref z0]) := by
  intro S z0 z1 H locs ls h hO hS hl
  unfold wX8_make_b61 at h
  refine lv_iconst (v := 3) C0.1 C0.2.1 dX8_make_61 (by decide) ?_
  obtain ⟨i3, h⟩ := h
  refine c_V C0 hO hS (mX8_isThrown h) i3 (by decide) rfl rfl tb_1451 tb_1453 tb_37 tb_81 tb_1454 hd_X8_isThrown rfl ⟨⟨by decide, by decide⟩, by decide, by decide⟩ hl.1 rfl (Nat.le_of_ble_eq_true rfl) dX8_make_62 (kI (fun r2 S1 H locs h hO hS => ?_))
  refine lv_if_eq (tgt := 70) C0.1 C0.2.1 dX8_make_65 (by decide) (fun c4 => ?_) (fun c4 => ?_)
  · have h := h.1 c4
    refine lv_iconst (v := 1) C0.1 C0.2.1 dX8_make_70 (by decide) ?_
    refine lv_istore C0.1 C0.2.1 dX8_make_71 hl (by decide) rfl (fun ls hl => ?_)
    refine lv_iconst (v := 0) C0.1 C0.2.1 dX8_make_73 (by decide) ?_
    refine lv_istore C0.1 C0.2.1 dX8_make_74 hl (by decide) rfl (fun ls hl => ?_)
    refine lv_iconst (v := 1) C0.1 C0.2.1 dX8_make_76 (by decide) ?_
    refine lv_istore C0.1 C0.2.1 dX8_make_77 hl (by decide) rfl (fun ls hl => ?_)
    obtain ⟨n9, h⟩ := h
    exact lX8_make_b79 C0 Y n9 _ _ _ _ _ _ _ h hO hS (lv_sub hl [3, 4, 5, 6, 2, 1, 0] rfl)
  · have h := h.2 c4
    refine lv_iconst (v := 0) C0.1 C0.2.1 dX8_make_68 (by decide) ?_
    exact e_I C0 Y hO hS h (Nat.le_refl _) (Nat.le_refl _) dX8_make_69
def wX8_make_b36 (x0 : Nat) (x1 : Int32) (x2 : Int32) (x3 : Int32) (Φ : Hp → Int32 → Prop) (S : Hp) (z0 : Nat) (z1 : Int32) : Prop := isA S z0 8 ∧ wX8_isThrown S z0 z1 2 (fun S1 r2 => ((¬ r2 = 0 → Φ S1 0) ∧ (r2 = 0 → isA S1 x0 8 ∧ ∃ a6, S1.FR 539 x0 = some a6 ∧ isA S1 a6 26 ∧ vp_in x1 (S1.N a6) ∧ ∃ a9, S1.AR a6 x1.toNatClampNeg = some a9 ∧ isA S1 a9 21 ∧ vp_in 0 (S1.N a9) ∧ ((¬ (S1.AI a9 ((0 : Int32).toNatClampNeg)) = (-1) → wX8_make_b61 x0 x1 x2 x3 Φ S1 x0 0) ∧ ((S1.AI a9 ((0 : Int32).toNatClampNeg)) = (-1) → wX8_make_b61 x0 x1 x2 x3 Φ S1 x0 1)))))
set_option maxHeartbeats 4000000 in
set_option maxRecDepth 100000 in
theorem bX8_make_b36 {p : Program} {l : Launch} {e : Env} {s : State} {m : MethodId} {args : Array Value} {below : List Frame} {meth : Method} {c : Code} {G : Gw} {x0 : Nat} {x1 : Int32} {x2 : Int32} {x3 : Int32} {Φ : Hp → Int32 → Prop} (C0 : Mx p s m c cX8_make 8 args yX8_make.cls G) (Y : My meth (some .int))  : ∀ (S : Hp) (z0 : Nat) (z1 : Int32) (H : Heap) (locs : List Loc) (ls : Array Slot), wX8_make_b36 x0 x1 x2 x3 Φ S z0 z1 → Ok G S H → va_S (Ab G.b) s.heap H locs → lv_has ls 8 [(0, .ref x0), (1, .int x1), (2, .int x2), (3, .int x3)] → W p l e rm_X8_make s m args below meth c H locs 0 0 (MQ below (gQ G (PI Φ)) args s rm_X8_make.cells rm_X8_make.slots (Ab G.b)) (F0 m 36 ls [.int z1, .ref z0]) := by
  intro S z0 z1 H locs ls h hO hS hl
  unfold wX8_make_b36 at h
  refine lv_iconst (v := 2) C0.1 C0.2.1 dX8_make_36 (by decide) ?_
  obtain ⟨i3, h⟩ := h
  refine c_V C0 hO hS (mX8_isThrown h) i3 (by decide) rfl rfl tb_1451 tb_1453 tb_37 tb_81 tb_1454 hd_X8_isThrown rfl ⟨⟨by decide, by decide⟩, by decide, by decide⟩ hl.1 rfl (Nat.le_of_ble_eq_true rfl) dX8_make_37 (kI (fun r2 S1 H locs h hO hS => ?_))
  refine lv_if_ne (tgt := 68) C0.1 C0.2.1 dX8_make_40 (by decide) (fun c4 => ?_) (fun c4 => ?_)
  · have h := h.1 c4
    refine lv_iconst (v := 0) C0.1 C0.2.1 dX8_make_68 (by decide) ?_
    exact e_I C0 Y hO hS h (Nat.le_refl _) (Nat.le_refl _) dX8_make_69
  · have h := h.2 c4
    refine lv_aload_n C0.1 C0.2.1 dX8_make_43 rfl (lv_at hl 0 rfl) ?_
    refine lv_aload_n C0.1 C0.2.1 dX8_make_44 rfl (lv_at hl 0 rfl) ?_
    obtain ⟨i5, h⟩ := h
    obtain ⟨a6, ea6, h⟩ := h
    refine g8_27 C0 hO i5 ea6 tb_1355 dX8_make_45 ?_
    refine lv_iload_n C0.1 C0.2.1 dX8_make_48 rfl (lv_at hl 1 rfl) ?_
    obtain ⟨i7, h⟩ := h
    obtain ⟨e8, a9, ea9, h⟩ := h
    refine r_oald26 C0 hO i7 e8 dX8_make_49 ?_
    rw [ea9]
    change W _ _ _ _ _ _ _ _ _ _ _ _ _ _ _ (F0 _ _ _ (.ref a9 :: _))
    refine lv_iconst (v := 0) C0.1 C0.2.1 dX8_make_50 (by decide) ?_
    obtain ⟨i10, h⟩ := h
    obtain ⟨e11, h⟩ := h
    refine r_iald C0 hO i10 e11 dX8_make_51 ?_
    refine lv_iconst (v := (-1)) C0.1 C0.2.1 dX8_make_52 (by decide) ?_
    refine lv_icmp_ne (tgt := 60) C0.1 C0.2.1 dX8_make_53 (by decide) (fun c12 => ?_) (fun c12 => ?_)
    · have h := h.1 c12
      refine lv_iconst (v := 0) C0.1 C0.2.1 dX8_make_60 (by decide) ?_
      exact bX8_make_b61 C0 Y _ _ _ _ _ _ h hO hS (lv_sub hl [0, 1, 2, 3] rfl)
    · have h := h.2 c12
      refine lv_iconst (v := 1) C0.1 C0.2.1 dX8_make_56 (by decide) ?_
      refine lv_goto (tgt := 61) C0.1 C0.2.1 dX8_make_57 (by decide) ?_
      exact bX8_make_b61 C0 Y _ _ _ _ _ _ h hO hS (lv_sub hl [0, 1, 2, 3] rfl)
def wX8_make_b31 (x0 : Nat) (x1 : Int32) (x2 : Int32) (x3 : Int32) (Φ : Hp → Int32 → Prop) (S : Hp) (z0 : Nat) : Prop := wX8_make_b36 x0 x1 x2 x3 Φ S z0 1
set_option maxHeartbeats 4000000 in
set_option maxRecDepth 100000 in
theorem bX8_make_b31 {p : Program} {l : Launch} {e : Env} {s : State} {m : MethodId} {args : Array Value} {below : List Frame} {meth : Method} {c : Code} {G : Gw} {x0 : Nat} {x1 : Int32} {x2 : Int32} {x3 : Int32} {Φ : Hp → Int32 → Prop} (C0 : Mx p s m c cX8_make 8 args yX8_make.cls G) (Y : My meth (some .int))  : ∀ (S : Hp) (z0 : Nat) (H : Heap) (locs : List Loc) (ls : Array Slot), wX8_make_b31 x0 x1 x2 x3 Φ S z0 → Ok G S H → va_S (Ab G.b) s.heap H locs → lv_has ls 8 [(0, .ref x0), (1, .int x1), (2, .int x2), (3, .int x3)] → W p l e rm_X8_make s m args below meth c H locs 0 0 (MQ below (gQ G (PI Φ)) args s rm_X8_make.cells rm_X8_make.slots (Ab G.b)) (F0 m 31 ls [.ref z0]) := by
  intro S z0 H locs ls h hO hS hl
  unfold wX8_make_b31 at h
  refine lv_iconst (v := 1) C0.1 C0.2.1 dX8_make_31 (by decide) ?_
  refine lv_goto (tgt := 36) C0.1 C0.2.1 dX8_make_32 (by decide) ?_
  exact bX8_make_b36 C0 Y _ _ _ _ _ _ h hO hS (lv_sub hl [0, 1, 2, 3] rfl)
def wX8_make_b0 (x0 : Nat) (x1 : Int32) (x2 : Int32) (x3 : Int32) (Φ : Hp → Int32 → Prop) (S : Hp) : Prop := isA S x0 8 ∧ wX8_isNoCam S x0 x1 (fun S1 r2 => isA S1 x0 8 ∧ wX8_isThrown S1 x0 r2 1 (fun S4 r5 => ((¬ r5 = 0 → Φ S4 0) ∧ (r5 = 0 → wX8_isLaw S4 x2 (fun S8 r9 => ((r9 = 0 → wX8_make_b31 x0 x1 x2 x3 Φ S8 x0) ∧ (¬ (r9 = 0) → wX8_isIn S8 x3 1 99 (fun S11 r12 => ((¬ r12 = 0 → wX8_make_b36 x0 x1 x2 x3 Φ S11 x0 0) ∧ (r12 = 0 → wX8_make_b31 x0 x1 x2 x3 Φ S11 x0))))))))))
set_option maxHeartbeats 4000000 in
set_option maxRecDepth 100000 in
theorem bX8_make_b0 {p : Program} {l : Launch} {e : Env} {s : State} {m : MethodId} {args : Array Value} {below : List Frame} {meth : Method} {c : Code} {G : Gw} {x0 : Nat} {x1 : Int32} {x2 : Int32} {x3 : Int32} {Φ : Hp → Int32 → Prop} (C0 : Mx p s m c cX8_make 8 args yX8_make.cls G) (Y : My meth (some .int))  : ∀ (S : Hp) (H : Heap) (locs : List Loc) (ls : Array Slot), wX8_make_b0 x0 x1 x2 x3 Φ S → Ok G S H → va_S (Ab G.b) s.heap H locs → lv_has ls 8 [(0, .ref x0), (1, .int x1), (2, .int x2), (3, .int x3)] → W p l e rm_X8_make s m args below meth c H locs 0 0 (MQ below (gQ G (PI Φ)) args s rm_X8_make.cells rm_X8_make.slots (Ab G.b)) (F0 m 0 ls []) := by
  intro S H locs ls h hO hS hl
  unfold wX8_make_b0 at h
  refine lv_aload_n C0.1 C0.2.1 dX8_make_0 rfl (lv_at hl 0 rfl) ?_
  refine lv_aload_n C0.1 C0.2.1 dX8_make_1 rfl (lv_at hl 0 rfl) ?_
  refine lv_iload_n C0.1 C0.2.1 dX8_make_2 rfl (lv_at hl 1 rfl) ?_
  obtain ⟨i3, h⟩ := h
  refine c_V C0 hO hS (mX8_isNoCam h) i3 (by decide) rfl rfl tb_1642 tb_1644 tb_59 tb_81 tb_1645 hd_X8_isNoCam rfl ⟨⟨by decide, by decide⟩, by decide, by decide⟩ hl.1 rfl (Nat.le_of_ble_eq_true rfl) dX8_make_3 (kI (fun r2 S1 H locs h hO hS => ?_))
  refine lv_iconst (v := 1) C0.1 C0.2.1 dX8_make_6 (by decide) ?_
  obtain ⟨i6, h⟩ := h
  refine c_V C0 hO hS (mX8_isThrown h) i6 (by decide) rfl rfl tb_1451 tb_1453 tb_37 tb_81 tb_1454 hd_X8_isThrown rfl ⟨⟨by decide, by decide⟩, by decide, by decide⟩ hl.1 rfl (Nat.le_of_ble_eq_true rfl) dX8_make_7 (kI (fun r5 S4 H locs h hO hS => ?_))
  refine lv_if_ne (tgt := 68) C0.1 C0.2.1 dX8_make_10 (by decide) (fun c7 => ?_) (fun c7 => ?_)
  · have h := h.1 c7
    refine lv_iconst (v := 0) C0.1 C0.2.1 dX8_make_68 (by decide) ?_
    exact e_I C0 Y hO hS h (Nat.le_refl _) (Nat.le_refl _) dX8_make_69
  · have h := h.2 c7
    refine lv_aload_n C0.1 C0.2.1 dX8_make_13 rfl (lv_at hl 0 rfl) ?_
    refine lv_iload_n C0.1 C0.2.1 dX8_make_14 rfl (lv_at hl 2 rfl) ?_
    refine c_S C0 hO hS (mX8_isLaw h) tb_1639 tb_1640 tb_81 tb_1641 hd_X8_isLaw rfl ⟨⟨by decide, by decide⟩, by decide, by decide⟩ hl.1 rfl (Nat.le_of_ble_eq_true rfl) dX8_make_15 (kI (fun r9 S8 H locs h hO hS => ?_))
    refine lv_if_eq (tgt := 31) C0.1 C0.2.1 dX8_make_18 (by decide) (fun c10 => ?_) (fun c10 => ?_)
    · have h := h.1 c10
      exact bX8_make_b31 C0 Y _ _ _ _ _ h hO hS (lv_sub hl [0, 1, 2, 3] rfl)
    · have h := h.2 c10
      refine lv_iload_n C0.1 C0.2.1 dX8_make_21 rfl (lv_at hl 3 rfl) ?_
      refine lv_iconst (v := 1) C0.1 C0.2.1 dX8_make_22 (by decide) ?_
      refine lv_bipush (v := 99) C0.1 C0.2.1 dX8_make_23 (by decide) ?_
      refine c_S C0 hO hS (mX8_isIn h) tb_1463 tb_1464 tb_81 tb_1465 hd_X8_isIn rfl ⟨⟨by decide, by decide⟩, by decide, by decide⟩ hl.1 rfl (Nat.le_of_ble_eq_true rfl) dX8_make_25 (kI (fun r12 S11 H locs h hO hS => ?_))
      refine lv_if_ne (tgt := 35) C0.1 C0.2.1 dX8_make_28 (by decide) (fun c13 => ?_) (fun c13 => ?_)
      · have h := h.1 c13
        refine lv_iconst (v := 0) C0.1 C0.2.1 dX8_make_35 (by decide) ?_
        exact bX8_make_b36 C0 Y _ _ _ _ _ _ h hO hS (lv_sub hl [0, 1, 2, 3] rfl)
      · have h := h.2 c13
        exact bX8_make_b31 C0 Y _ _ _ _ _ h hO hS (lv_sub hl [0, 1, 2, 3] rfl)
def wX8_make (S : Hp) (x0 : Nat) (x1 : Int32) (x2 : Int32) (x3 : Int32) (Φ : Hp → Int32 → Prop) : Prop := wX8_make_b0 x0 x1 x2 x3 Φ S
set_option maxRecDepth 100000 in
theorem mX8_make {l : Launch} {G : Gw} {S : Hp} {x0 : Nat} {x1 : Int32} {x2 : Int32} {x3 : Int32} {Φ : Hp → Int32 → Prop} (h : wX8_make S x0 x1 x2 x3 Φ) : gM l yX8_make cX8_make 8 (some .int) rm_X8_make [.ref x0, .int x1, .int x2, .int x3] G S (PI Φ) := by
  unfold gM
  refine Met.ofW (cc := cX8_make) (maxL := 8) (ret := (some .int)) (by decide) rfl ?_
  intro p e s m args below meth c s₁ B hml hv
  obtain ⟨rfl, hw⟩ := hv
  obtain ⟨C0, Y, hO⟩ := mx_of B hml hw
  have hS : va_S (Ab G.b) s.heap s.heap [] := va_S.rf
  have hl := lv_entry ([.ref x0, .int x1, .int x2, .int x3]) (n := 8) (Nat.le_of_ble_eq_true rfl)
  rw [lg_entry_eq]
  generalize (lg_sl ([.ref x0, .int x1, .int x2, .int x3]) ++ List.replicate (8 - (lg_sl ([.ref x0, .int x1, .int x2, .int x3])).length) Slot.unset).toArray = ls at hl ⊢
  have hl : lv_has ls 8 [(0, .ref x0), (1, .int x1), (2, .int x2), (3, .int x3)] := hl
  exact bX8_make_b0 C0 Y S _ _ _ h hO hS hl

def rm_X8_drum : Room := { frames := 2, cells := 0, slots := 0, locals := 43 }
def wX8_drum_b27 (x0 : Nat) (x1 : Int32) (Φ : Hp → Int32 → Prop) (S : Hp) (z0 : Nat) (z1 : Int32) : Prop := isA S z0 8 ∧ wX8_isThrown S z0 z1 2 (fun S1 r2 => ((r2 = 0 → isA S1 x0 8 ∧ ∃ a6, S1.FR 540 x0 = some a6 ∧ isA S1 a6 21 ∧ vp_in (S1.FI 546 x0) (S1.N a6) ∧ ∀ S9, S9 = S1.setAI a6 ((S1.FI 546 x0).toNatClampNeg) x1 → ∀ S10, S10 = S9.setFI 546 x0 ((S9.FI 546 x0) + 1) → Φ S10 ((S10.FI 546 x0) - 1)) ∧ (¬ (r2 = 0) → Φ S1 0)))
set_option maxHeartbeats 4000000 in
set_option maxRecDepth 100000 in
theorem bX8_drum_b27 {p : Program} {l : Launch} {e : Env} {s : State} {m : MethodId} {args : Array Value} {below : List Frame} {meth : Method} {c : Code} {G : Gw} {x0 : Nat} {x1 : Int32} {Φ : Hp → Int32 → Prop} (C0 : Mx p s m c cX8_drum 2 args yX8_drum.cls G) (Y : My meth (some .int))  : ∀ (S : Hp) (z0 : Nat) (z1 : Int32) (H : Heap) (locs : List Loc) (ls : Array Slot), wX8_drum_b27 x0 x1 Φ S z0 z1 → Ok G S H → va_S (Ab G.b) s.heap H locs → lv_has ls 2 [(0, .ref x0), (1, .int x1)] → W p l e rm_X8_drum s m args below meth c H locs 0 0 (MQ below (gQ G (PI Φ)) args s rm_X8_drum.cells rm_X8_drum.slots (Ab G.b)) (F0 m 27 ls [.int z1, .ref z0]) := by
  intro S z0 z1 H locs ls h hO hS hl
  unfold wX8_drum_b27 at h
  refine lv_iconst (v := 2) C0.1 C0.2.1 dX8_drum_27 (by decide) ?_
  obtain ⟨i3, h⟩ := h
  refine c_V C0 hO hS (mX8_isThrown h) i3 (by decide) rfl rfl tb_1451 tb_1453 tb_37 tb_81 tb_1454 hd_X8_isThrown rfl ⟨⟨by decide, by decide⟩, by decide, by decide⟩ hl.1 rfl (Nat.le_of_ble_eq_true rfl) dX8_drum_28 (kI (fun r2 S1 H locs h hO hS => ?_))
  refine lv_if_eq (tgt := 36) C0.1 C0.2.1 dX8_drum_31 (by decide) (fun c4 => ?_) (fun c4 => ?_)
  · have h := h.1 c4
    refine lv_aload_n C0.1 C0.2.1 dX8_drum_36 rfl (lv_at hl 0 rfl) ?_
    obtain ⟨i5, h⟩ := h
    obtain ⟨a6, ea6, h⟩ := h
    refine g8_28 C0 hO i5 ea6 tb_1356 dX8_drum_37 ?_
    refine lv_aload_n C0.1 C0.2.1 dX8_drum_40 rfl (lv_at hl 0 rfl) ?_
    refine g8_34 C0 hO i5 tb_1362 dX8_drum_41 ?_
    refine lv_iload_n C0.1 C0.2.1 dX8_drum_44 rfl (lv_at hl 1 rfl) ?_
    obtain ⟨i7, h⟩ := h
    obtain ⟨e8, h⟩ := h
    refine r_iast C0 hO hS i7 e8 dX8_drum_45 (fun H locs hO hS => ?_)
    have h := h _ rfl
    refine lv_aload_n C0.1 C0.2.1 dX8_drum_46 rfl (lv_at hl 0 rfl) ?_
    refine lv_dup C0.1 C0.2.1 dX8_drum_47 rfl ?_
    refine g8_34 C0 hO (sA_AI i5) tb_1362 dX8_drum_48 ?_
    refine lv_iconst (v := 1) C0.1 C0.2.1 dX8_drum_51 (by decide) ?_
    refine lv_iadd C0.1 C0.2.1 dX8_drum_52 ?_
    refine p8_34 C0 hO hS (sA_AI i5) tb_1362 dX8_drum_53 (fun H locs hO hS => ?_)
    have h := h _ rfl
    refine lv_aload_n C0.1 C0.2.1 dX8_drum_56 rfl (lv_at hl 0 rfl) ?_
    refine g8_34 C0 hO (sA_FI (sA_AI i5)) tb_1362 dX8_drum_57 ?_
    refine lv_iconst (v := 1) C0.1 C0.2.1 dX8_drum_60 (by decide) ?_
    refine lv_isub C0.1 C0.2.1 dX8_drum_61 ?_
    exact e_I C0 Y hO hS h (Nat.le_refl _) (Nat.le_refl _) dX8_drum_62
  · have h := h.2 c4
    refine lv_iconst (v := 0) C0.1 C0.2.1 dX8_drum_34 (by decide) ?_
    exact e_I C0 Y hO hS h (Nat.le_refl _) (Nat.le_refl _) dX8_drum_35
def wX8_drum_b0 (x0 : Nat) (x1 : Int32) (Φ : Hp → Int32 → Prop) (S : Hp) : Prop := isA S x0 8 ∧ wX8_isNoShaft S x0 x1 (fun S1 r2 => isA S1 x0 8 ∧ wX8_isThrown S1 x0 r2 1 (fun S4 r5 => ((¬ r5 = 0 → Φ S4 0) ∧ (r5 = 0 → isA S4 x0 8 ∧ ((¬ (S4.FI 546 x0) = 4 → wX8_drum_b27 x0 x1 Φ S4 x0 0) ∧ ((S4.FI 546 x0) = 4 → wX8_drum_b27 x0 x1 Φ S4 x0 1))))))
set_option maxHeartbeats 4000000 in
set_option maxRecDepth 100000 in
theorem bX8_drum_b0 {p : Program} {l : Launch} {e : Env} {s : State} {m : MethodId} {args : Array Value} {below : List Frame} {meth : Method} {c : Code} {G : Gw} {x0 : Nat} {x1 : Int32} {Φ : Hp → Int32 → Prop} (C0 : Mx p s m c cX8_drum 2 args yX8_drum.cls G) (Y : My meth (some .int))  : ∀ (S : Hp) (H : Heap) (locs : List Loc) (ls : Array Slot), wX8_drum_b0 x0 x1 Φ S → Ok G S H → va_S (Ab G.b) s.heap H locs → lv_has ls 2 [(0, .ref x0), (1, .int x1)] → W p l e rm_X8_drum s m args below meth c H locs 0 0 (MQ below (gQ G (PI Φ)) args s rm_X8_drum.cells rm_X8_drum.slots (Ab G.b)) (F0 m 0 ls []) := by
  intro S H locs ls h hO hS hl
  unfold wX8_drum_b0 at h
  refine lv_aload_n C0.1 C0.2.1 dX8_drum_0 rfl (lv_at hl 0 rfl) ?_
  refine lv_aload_n C0.1 C0.2.1 dX8_drum_1 rfl (lv_at hl 0 rfl) ?_
  refine lv_iload_n C0.1 C0.2.1 dX8_drum_2 rfl (lv_at hl 1 rfl) ?_
  obtain ⟨i3, h⟩ := h
  refine c_V C0 hO hS (mX8_isNoShaft h) i3 (by decide) rfl rfl tb_1459 tb_1461 tb_38 tb_81 tb_1462 hd_X8_isNoShaft rfl ⟨⟨by decide, by decide⟩, by decide, by decide⟩ hl.1 rfl (Nat.le_of_ble_eq_true rfl) dX8_drum_3 (kI (fun r2 S1 H locs h hO hS => ?_))
  refine lv_iconst (v := 1) C0.1 C0.2.1 dX8_drum_6 (by decide) ?_
  obtain ⟨i6, h⟩ := h
  refine c_V C0 hO hS (mX8_isThrown h) i6 (by decide) rfl rfl tb_1451 tb_1453 tb_37 tb_81 tb_1454 hd_X8_isThrown rfl ⟨⟨by decide, by decide⟩, by decide, by decide⟩ hl.1 rfl (Nat.le_of_ble_eq_true rfl) dX8_drum_7 (kI (fun r5 S4 H locs h hO hS => ?_))
  refine lv_if_ne (tgt := 34) C0.1 C0.2.1 dX8_drum_10 (by decide) (fun c7 => ?_) (fun c7 => ?_)
  · have h := h.1 c7
    refine lv_iconst (v := 0) C0.1 C0.2.1 dX8_drum_34 (by decide) ?_
    exact e_I C0 Y hO hS h (Nat.le_refl _) (Nat.le_refl _) dX8_drum_35
  · have h := h.2 c7
    refine lv_aload_n C0.1 C0.2.1 dX8_drum_13 rfl (lv_at hl 0 rfl) ?_
    refine lv_aload_n C0.1 C0.2.1 dX8_drum_14 rfl (lv_at hl 0 rfl) ?_
    obtain ⟨i8, h⟩ := h
    refine g8_34 C0 hO i8 tb_1362 dX8_drum_15 ?_
    refine lv_iconst (v := 4) C0.1 C0.2.1 dX8_drum_18 (by decide) ?_
    refine lv_icmp_ne (tgt := 26) C0.1 C0.2.1 dX8_drum_19 (by decide) (fun c9 => ?_) (fun c9 => ?_)
    · have h := h.1 c9
      refine lv_iconst (v := 0) C0.1 C0.2.1 dX8_drum_26 (by decide) ?_
      exact bX8_drum_b27 C0 Y _ _ _ _ _ _ h hO hS (lv_sub hl [0, 1] rfl)
    · have h := h.2 c9
      refine lv_iconst (v := 1) C0.1 C0.2.1 dX8_drum_22 (by decide) ?_
      refine lv_goto (tgt := 27) C0.1 C0.2.1 dX8_drum_23 (by decide) ?_
      exact bX8_drum_b27 C0 Y _ _ _ _ _ _ h hO hS (lv_sub hl [0, 1] rfl)
def wX8_drum (S : Hp) (x0 : Nat) (x1 : Int32) (Φ : Hp → Int32 → Prop) : Prop := wX8_drum_b0 x0 x1 Φ S
set_option maxRecDepth 100000 in
theorem mX8_drum {l : Launch} {G : Gw} {S : Hp} {x0 : Nat} {x1 : Int32} {Φ : Hp → Int32 → Prop} (h : wX8_drum S x0 x1 Φ) : gM l yX8_drum cX8_drum 2 (some .int) rm_X8_drum [.ref x0, .int x1] G S (PI Φ) := by
  unfold gM
  refine Met.ofW (cc := cX8_drum) (maxL := 2) (ret := (some .int)) (by decide) rfl ?_
  intro p e s m args below meth c s₁ B hml hv
  obtain ⟨rfl, hw⟩ := hv
  obtain ⟨C0, Y, hO⟩ := mx_of B hml hw
  have hS : va_S (Ab G.b) s.heap s.heap [] := va_S.rf
  have hl := lv_entry ([.ref x0, .int x1]) (n := 2) (Nat.le_of_ble_eq_true rfl)
  rw [lg_entry_eq]
  generalize (lg_sl ([.ref x0, .int x1]) ++ List.replicate (2 - (lg_sl ([.ref x0, .int x1])).length) Slot.unset).toArray = ls at hl ⊢
  have hl : lv_has ls 2 [(0, .ref x0), (1, .int x1)] := hl
  exact bX8_drum_b0 C0 Y S _ _ _ h hO hS hl

def rm_X8_isNoDrum : Room := { frames := 1, cells := 0, slots := 0, locals := 22 }
def wX8_isNoDrum_b0 (x0 : Nat) (x1 : Int32) (Φ : Hp → Int32 → Prop) (S : Hp) : Prop := isA S x0 8 ∧ wX8_isIn S x1 0 ((S.FI 546 x0) - 1) (fun S2 r3 => ((¬ r3 = 0 → Φ S2 0) ∧ (r3 = 0 → Φ S2 1)))
set_option maxHeartbeats 4000000 in
set_option maxRecDepth 100000 in
theorem bX8_isNoDrum_b0 {p : Program} {l : Launch} {e : Env} {s : State} {m : MethodId} {args : Array Value} {below : List Frame} {meth : Method} {c : Code} {G : Gw} {x0 : Nat} {x1 : Int32} {Φ : Hp → Int32 → Prop} (C0 : Mx p s m c cX8_isNoDrum 2 args yX8_isNoDrum.cls G) (Y : My meth (some .boolean))  : ∀ (S : Hp) (H : Heap) (locs : List Loc) (ls : Array Slot), wX8_isNoDrum_b0 x0 x1 Φ S → Ok G S H → va_S (Ab G.b) s.heap H locs → lv_has ls 2 [(0, .ref x0), (1, .int x1)] → W p l e rm_X8_isNoDrum s m args below meth c H locs 0 0 (MQ below (gQ G (PI Φ)) args s rm_X8_isNoDrum.cells rm_X8_isNoDrum.slots (Ab G.b)) (F0 m 0 ls []) := by
  intro S H locs ls h hO hS hl
  unfold wX8_isNoDrum_b0 at h
  refine lv_iload_n C0.1 C0.2.1 dX8_isNoDrum_0 rfl (lv_at hl 1 rfl) ?_
  refine lv_iconst (v := 0) C0.1 C0.2.1 dX8_isNoDrum_1 (by decide) ?_
  refine lv_aload_n C0.1 C0.2.1 dX8_isNoDrum_2 rfl (lv_at hl 0 rfl) ?_
  obtain ⟨i1, h⟩ := h
  refine g8_34 C0 hO i1 tb_1362 dX8_isNoDrum_3 ?_
  refine lv_iconst (v := 1) C0.1 C0.2.1 dX8_isNoDrum_6 (by decide) ?_
  refine lv_isub C0.1 C0.2.1 dX8_isNoDrum_7 ?_
  refine c_S C0 hO hS (mX8_isIn h) tb_1463 tb_1464 tb_81 tb_1465 hd_X8_isIn rfl ⟨⟨by decide, by decide⟩, by decide, by decide⟩ hl.1 rfl (Nat.le_of_ble_eq_true rfl) dX8_isNoDrum_8 (kI (fun r3 S2 H locs h hO hS => ?_))
  refine lv_if_ne (tgt := 18) C0.1 C0.2.1 dX8_isNoDrum_11 (by decide) (fun c4 => ?_) (fun c4 => ?_)
  · have h := h.1 c4
    refine lv_iconst (v := 0) C0.1 C0.2.1 dX8_isNoDrum_18 (by decide) ?_
    exact e_Z C0 Y hO hS rfl h (Nat.le_refl _) (Nat.le_refl _) dX8_isNoDrum_19
  · have h := h.2 c4
    refine lv_iconst (v := 1) C0.1 C0.2.1 dX8_isNoDrum_14 (by decide) ?_
    refine lv_goto (tgt := 19) C0.1 C0.2.1 dX8_isNoDrum_15 (by decide) ?_
    exact e_Z C0 Y hO hS rfl h (Nat.le_refl _) (Nat.le_refl _) dX8_isNoDrum_19
def wX8_isNoDrum (S : Hp) (x0 : Nat) (x1 : Int32) (Φ : Hp → Int32 → Prop) : Prop := wX8_isNoDrum_b0 x0 x1 Φ S
set_option maxRecDepth 100000 in
theorem mX8_isNoDrum {l : Launch} {G : Gw} {S : Hp} {x0 : Nat} {x1 : Int32} {Φ : Hp → Int32 → Prop} (h : wX8_isNoDrum S x0 x1 Φ) : gM l yX8_isNoDrum cX8_isNoDrum 2 (some .boolean) rm_X8_isNoDrum [.ref x0, .int x1] G S (PI Φ) := by
  unfold gM
  refine Met.ofW (cc := cX8_isNoDrum) (maxL := 2) (ret := (some .boolean)) (by decide) rfl ?_
  intro p e s m args below meth c s₁ B hml hv
  obtain ⟨rfl, hw⟩ := hv
  obtain ⟨C0, Y, hO⟩ := mx_of B hml hw
  have hS : va_S (Ab G.b) s.heap s.heap [] := va_S.rf
  have hl := lv_entry ([.ref x0, .int x1]) (n := 2) (Nat.le_of_ble_eq_true rfl)
  rw [lg_entry_eq]
  generalize (lg_sl ([.ref x0, .int x1]) ++ List.replicate (2 - (lg_sl ([.ref x0, .int x1])).length) Slot.unset).toArray = ls at hl ⊢
  have hl : lv_has ls 2 [(0, .ref x0), (1, .int x1)] := hl
  exact bX8_isNoDrum_b0 C0 Y S _ _ _ h hO hS hl

def rm_X8_pin : Room := { frames := 2, cells := 0, slots := 0, locals := 43 }
def wX8_pin_b39 (x0 : Nat) (x1 : Int32) (x2 : Int32) (x3 : Int32) (x4 : Int32) (Φ : Hp → Int32 → Prop) (S : Hp) (z0 : Nat) (z1 : Int32) : Prop := isA S z0 8 ∧ wX8_isThrown S z0 z1 2 (fun S1 r2 => ((r2 = 0 → isA S1 x0 8 ∧ ∃ a6, S1.FR 541 x0 = some a6 ∧ isA S1 a6 29 ∧ vp_in x1 (S1.N a6) ∧ ∃ a9, S1.AR a6 x1.toNatClampNeg = some a9 ∧ isA S1 a9 28 ∧ vp_in x2 (S1.N a9) ∧ ∃ a12, S1.AR a9 x2.toNatClampNeg = some a12 ∧ isA S1 a12 23 ∧ vp_in x3 (S1.N a12) ∧ ∃ a15, S1.FR 541 x0 = some a15 ∧ isA S1 a15 29 ∧ vp_in x1 (S1.N a15) ∧ ∃ a18, S1.AR a15 x1.toNatClampNeg = some a18 ∧ isA S1 a18 28 ∧ vp_in x2 (S1.N a18) ∧ ∃ a21, S1.AR a18 x2.toNatClampNeg = some a21 ∧ isA S1 a21 23 ∧ vp_in x3 (S1.N a21) ∧ nb x4 ∧ ∀ S25, S25 = S1.setAI a21 x3.toNatClampNeg x4 → narrow .boolean (.int (S1.AI a12 x3.toNatClampNeg)) = .int (S1.AI a12 x3.toNatClampNeg) ∧ Φ S25 (S1.AI a12 x3.toNatClampNeg)) ∧ (¬ (r2 = 0) → Φ S1 0)))
set_option maxHeartbeats 4000000 in
set_option maxRecDepth 100000 in
theorem bX8_pin_b39 {p : Program} {l : Launch} {e : Env} {s : State} {m : MethodId} {args : Array Value} {below : List Frame} {meth : Method} {c : Code} {G : Gw} {x0 : Nat} {x1 : Int32} {x2 : Int32} {x3 : Int32} {x4 : Int32} {Φ : Hp → Int32 → Prop} (C0 : Mx p s m c cX8_pin 6 args yX8_pin.cls G) (Y : My meth (some .boolean))  : ∀ (S : Hp) (z0 : Nat) (z1 : Int32) (H : Heap) (locs : List Loc) (ls : Array Slot), wX8_pin_b39 x0 x1 x2 x3 x4 Φ S z0 z1 → Ok G S H → va_S (Ab G.b) s.heap H locs → lv_has ls 6 [(0, .ref x0), (1, .int x1), (2, .int x2), (3, .int x3), (4, .int x4)] → W p l e rm_X8_pin s m args below meth c H locs 0 0 (MQ below (gQ G (PI Φ)) args s rm_X8_pin.cells rm_X8_pin.slots (Ab G.b)) (F0 m 39 ls [.int z1, .ref z0]) := by
  intro S z0 z1 H locs ls h hO hS hl
  unfold wX8_pin_b39 at h
  refine lv_iconst (v := 2) C0.1 C0.2.1 dX8_pin_39 (by decide) ?_
  obtain ⟨i3, h⟩ := h
  refine c_V C0 hO hS (mX8_isThrown h) i3 (by decide) rfl rfl tb_1451 tb_1453 tb_37 tb_81 tb_1454 hd_X8_isThrown rfl ⟨⟨by decide, by decide⟩, by decide, by decide⟩ hl.1 rfl (Nat.le_of_ble_eq_true rfl) dX8_pin_40 (kI (fun r2 S1 H locs h hO hS => ?_))
  refine lv_if_eq (tgt := 48) C0.1 C0.2.1 dX8_pin_43 (by decide) (fun c4 => ?_) (fun c4 => ?_)
  · have h := h.1 c4
    refine lv_aload_n C0.1 C0.2.1 dX8_pin_48 rfl (lv_at hl 0 rfl) ?_
    obtain ⟨i5, h⟩ := h
    obtain ⟨a6, ea6, h⟩ := h
    refine g8_29 C0 hO i5 ea6 tb_1357 dX8_pin_49 ?_
    refine lv_iload_n C0.1 C0.2.1 dX8_pin_52 rfl (lv_at hl 1 rfl) ?_
    obtain ⟨i7, h⟩ := h
    obtain ⟨e8, a9, ea9, h⟩ := h
    refine r_oald29 C0 hO i7 e8 dX8_pin_53 ?_
    rw [ea9]
    change W _ _ _ _ _ _ _ _ _ _ _ _ _ _ _ (F0 _ _ _ (.ref a9 :: _))
    refine lv_iload_n C0.1 C0.2.1 dX8_pin_54 rfl (lv_at hl 2 rfl) ?_
    obtain ⟨i10, h⟩ := h
    obtain ⟨e11, a12, ea12, h⟩ := h
    refine r_oald28 C0 hO i10 e11 dX8_pin_55 ?_
    rw [ea12]
    change W _ _ _ _ _ _ _ _ _ _ _ _ _ _ _ (F0 _ _ _ (.ref a12 :: _))
    refine lv_iload_n C0.1 C0.2.1 dX8_pin_56 rfl (lv_at hl 3 rfl) ?_
    obtain ⟨i13, h⟩ := h
    obtain ⟨e14, h⟩ := h
    refine r_zald C0 hO i13 e14 dX8_pin_57 ?_
    refine lv_istore C0.1 C0.2.1 dX8_pin_58 hl (by decide) rfl (fun ls hl => ?_)
    refine lv_aload_n C0.1 C0.2.1 dX8_pin_60 rfl (lv_at hl 1 rfl) ?_
    obtain ⟨a15, ea15, h⟩ := h
    refine g8_29 C0 hO i5 ea15 tb_1357 dX8_pin_61 ?_
    refine lv_iload_n C0.1 C0.2.1 dX8_pin_64 rfl (lv_at hl 2 rfl) ?_
    obtain ⟨i16, h⟩ := h
    obtain ⟨e17, a18, ea18, h⟩ := h
    refine r_oald29 C0 hO i16 e17 dX8_pin_65 ?_
    rw [ea18]
    change W _ _ _ _ _ _ _ _ _ _ _ _ _ _ _ (F0 _ _ _ (.ref a18 :: _))
    refine lv_iload_n C0.1 C0.2.1 dX8_pin_66 rfl (lv_at hl 3 rfl) ?_
    obtain ⟨i19, h⟩ := h
    obtain ⟨e20, a21, ea21, h⟩ := h
    refine r_oald28 C0 hO i19 e20 dX8_pin_67 ?_
    rw [ea21]
    change W _ _ _ _ _ _ _ _ _ _ _ _ _ _ _ (F0 _ _ _ (.ref a21 :: _))
    refine lv_iload_n C0.1 C0.2.1 dX8_pin_68 rfl (lv_at hl 4 rfl) ?_
    refine lv_iload C0.1 C0.2.1 dX8_pin_69 (lv_at hl 5 rfl) ?_
    obtain ⟨i22, h⟩ := h
    obtain ⟨e23, h⟩ := h
    obtain ⟨e24, h⟩ := h
    refine r_zast C0 hO hS i22 e23 e24 dX8_pin_71 (fun H locs hO hS => ?_)
    have h := h _ rfl
    refine lv_iload C0.1 C0.2.1 dX8_pin_72 (lv_at hl 0 rfl) ?_
    exact e_Z C0 Y hO hS h.1 h.2 (Nat.le_refl _) (Nat.le_refl _) dX8_pin_74
  · have h := h.2 c4
    refine lv_iconst (v := 0) C0.1 C0.2.1 dX8_pin_46 (by decide) ?_
    exact e_Z C0 Y hO hS rfl h (Nat.le_refl _) (Nat.le_refl _) dX8_pin_47
def wX8_pin_b34 (x0 : Nat) (x1 : Int32) (x2 : Int32) (x3 : Int32) (x4 : Int32) (Φ : Hp → Int32 → Prop) (S : Hp) (z0 : Nat) : Prop := wX8_pin_b39 x0 x1 x2 x3 x4 Φ S z0 1
set_option maxHeartbeats 4000000 in
set_option maxRecDepth 100000 in
theorem bX8_pin_b34 {p : Program} {l : Launch} {e : Env} {s : State} {m : MethodId} {args : Array Value} {below : List Frame} {meth : Method} {c : Code} {G : Gw} {x0 : Nat} {x1 : Int32} {x2 : Int32} {x3 : Int32} {x4 : Int32} {Φ : Hp → Int32 → Prop} (C0 : Mx p s m c cX8_pin 6 args yX8_pin.cls G) (Y : My meth (some .boolean))  : ∀ (S : Hp) (z0 : Nat) (H : Heap) (locs : List Loc) (ls : Array Slot), wX8_pin_b34 x0 x1 x2 x3 x4 Φ S z0 → Ok G S H → va_S (Ab G.b) s.heap H locs → lv_has ls 6 [(0, .ref x0), (1, .int x1), (2, .int x2), (3, .int x3), (4, .int x4)] → W p l e rm_X8_pin s m args below meth c H locs 0 0 (MQ below (gQ G (PI Φ)) args s rm_X8_pin.cells rm_X8_pin.slots (Ab G.b)) (F0 m 34 ls [.ref z0]) := by
  intro S z0 H locs ls h hO hS hl
  unfold wX8_pin_b34 at h
  refine lv_iconst (v := 1) C0.1 C0.2.1 dX8_pin_34 (by decide) ?_
  refine lv_goto (tgt := 39) C0.1 C0.2.1 dX8_pin_35 (by decide) ?_
  exact bX8_pin_b39 C0 Y _ _ _ _ _ _ h hO hS (lv_sub hl [0, 1, 2, 3, 4] rfl)
def wX8_pin_b0 (x0 : Nat) (x1 : Int32) (x2 : Int32) (x3 : Int32) (x4 : Int32) (Φ : Hp → Int32 → Prop) (S : Hp) : Prop := isA S x0 8 ∧ wX8_isNoDrum S x0 x1 (fun S1 r2 => isA S1 x0 8 ∧ wX8_isThrown S1 x0 r2 1 (fun S4 r5 => ((¬ r5 = 0 → Φ S4 0) ∧ (r5 = 0 → wX8_isIn S4 x2 0 23 (fun S8 r9 => ((r9 = 0 → wX8_pin_b34 x0 x1 x2 x3 x4 Φ S8 x0) ∧ (¬ (r9 = 0) → wX8_isIn S8 x3 0 7 (fun S11 r12 => ((¬ r12 = 0 → wX8_pin_b39 x0 x1 x2 x3 x4 Φ S11 x0 0) ∧ (r12 = 0 → wX8_pin_b34 x0 x1 x2 x3 x4 Φ S11 x0))))))))))
set_option maxHeartbeats 4000000 in
set_option maxRecDepth 100000 in
theorem bX8_pin_b0 {p : Program} {l : Launch} {e : Env} {s : State} {m : MethodId} {args : Array Value} {below : List Frame} {meth : Method} {c : Code} {G : Gw} {x0 : Nat} {x1 : Int32} {x2 : Int32} {x3 : Int32} {x4 : Int32} {Φ : Hp → Int32 → Prop} (C0 : Mx p s m c cX8_pin 6 args yX8_pin.cls G) (Y : My meth (some .boolean))  : ∀ (S : Hp) (H : Heap) (locs : List Loc) (ls : Array Slot), wX8_pin_b0 x0 x1 x2 x3 x4 Φ S → Ok G S H → va_S (Ab G.b) s.heap H locs → lv_has ls 6 [(0, .ref x0), (1, .int x1), (2, .int x2), (3, .int x3), (4, .int x4)] → W p l e rm_X8_pin s m args below meth c H locs 0 0 (MQ below (gQ G (PI Φ)) args s rm_X8_pin.cells rm_X8_pin.slots (Ab G.b)) (F0 m 0 ls []) := by
  intro S H locs ls h hO hS hl
  unfold wX8_pin_b0 at h
  refine lv_aload_n C0.1 C0.2.1 dX8_pin_0 rfl (lv_at hl 0 rfl) ?_
  refine lv_aload_n C0.1 C0.2.1 dX8_pin_1 rfl (lv_at hl 0 rfl) ?_
  refine lv_iload_n C0.1 C0.2.1 dX8_pin_2 rfl (lv_at hl 1 rfl) ?_
  obtain ⟨i3, h⟩ := h
  refine c_V C0 hO hS (mX8_isNoDrum h) i3 (by decide) rfl rfl tb_1707 tb_1709 tb_66 tb_81 tb_1710 hd_X8_isNoDrum rfl ⟨⟨by decide, by decide⟩, by decide, by decide⟩ hl.1 rfl (Nat.le_of_ble_eq_true rfl) dX8_pin_3 (kI (fun r2 S1 H locs h hO hS => ?_))
  refine lv_iconst (v := 1) C0.1 C0.2.1 dX8_pin_6 (by decide) ?_
  obtain ⟨i6, h⟩ := h
  refine c_V C0 hO hS (mX8_isThrown h) i6 (by decide) rfl rfl tb_1451 tb_1453 tb_37 tb_81 tb_1454 hd_X8_isThrown rfl ⟨⟨by decide, by decide⟩, by decide, by decide⟩ hl.1 rfl (Nat.le_of_ble_eq_true rfl) dX8_pin_7 (kI (fun r5 S4 H locs h hO hS => ?_))
  refine lv_if_ne (tgt := 46) C0.1 C0.2.1 dX8_pin_10 (by decide) (fun c7 => ?_) (fun c7 => ?_)
  · have h := h.1 c7
    refine lv_iconst (v := 0) C0.1 C0.2.1 dX8_pin_46 (by decide) ?_
    exact e_Z C0 Y hO hS rfl h (Nat.le_refl _) (Nat.le_refl _) dX8_pin_47
  · have h := h.2 c7
    refine lv_aload_n C0.1 C0.2.1 dX8_pin_13 rfl (lv_at hl 0 rfl) ?_
    refine lv_iload_n C0.1 C0.2.1 dX8_pin_14 rfl (lv_at hl 2 rfl) ?_
    refine lv_iconst (v := 0) C0.1 C0.2.1 dX8_pin_15 (by decide) ?_
    refine lv_bipush (v := 23) C0.1 C0.2.1 dX8_pin_16 (by decide) ?_
    refine c_S C0 hO hS (mX8_isIn h) tb_1463 tb_1464 tb_81 tb_1465 hd_X8_isIn rfl ⟨⟨by decide, by decide⟩, by decide, by decide⟩ hl.1 rfl (Nat.le_of_ble_eq_true rfl) dX8_pin_18 (kI (fun r9 S8 H locs h hO hS => ?_))
    refine lv_if_eq (tgt := 34) C0.1 C0.2.1 dX8_pin_21 (by decide) (fun c10 => ?_) (fun c10 => ?_)
    · have h := h.1 c10
      exact bX8_pin_b34 C0 Y _ _ _ _ _ h hO hS (lv_sub hl [0, 1, 2, 3, 4] rfl)
    · have h := h.2 c10
      refine lv_iload_n C0.1 C0.2.1 dX8_pin_24 rfl (lv_at hl 3 rfl) ?_
      refine lv_iconst (v := 0) C0.1 C0.2.1 dX8_pin_25 (by decide) ?_
      refine lv_bipush (v := 7) C0.1 C0.2.1 dX8_pin_26 (by decide) ?_
      refine c_S C0 hO hS (mX8_isIn h) tb_1463 tb_1464 tb_81 tb_1465 hd_X8_isIn rfl ⟨⟨by decide, by decide⟩, by decide, by decide⟩ hl.1 rfl (Nat.le_of_ble_eq_true rfl) dX8_pin_28 (kI (fun r12 S11 H locs h hO hS => ?_))
      refine lv_if_ne (tgt := 38) C0.1 C0.2.1 dX8_pin_31 (by decide) (fun c13 => ?_) (fun c13 => ?_)
      · have h := h.1 c13
        refine lv_iconst (v := 0) C0.1 C0.2.1 dX8_pin_38 (by decide) ?_
        exact bX8_pin_b39 C0 Y _ _ _ _ _ _ h hO hS (lv_sub hl [0, 1, 2, 3, 4] rfl)
      · have h := h.2 c13
        exact bX8_pin_b34 C0 Y _ _ _ _ _ h hO hS (lv_sub hl [0, 1, 2, 3, 4] rfl)
def wX8_pin (S : Hp) (x0 : Nat) (x1 : Int32) (x2 : Int32) (x3 : Int32) (x4 : Int32) (Φ : Hp → Int32 → Prop) : Prop := wX8_pin_b0 x0 x1 x2 x3 x4 Φ S
set_option maxRecDepth 100000 in
theorem mX8_pin {l : Launch} {G : Gw} {S : Hp} {x0 : Nat} {x1 : Int32} {x2 : Int32} {x3 : Int32} {x4 : Int32} {Φ : Hp → Int32 → Prop} (h : wX8_pin S x0 x1 x2 x3 x4 Φ) : gM l yX8_pin cX8_pin 6 (some .boolean) rm_X8_pin [.ref x0, .int x1, .int x2, .int x3, .int x4] G S (PI Φ) := by
  unfold gM
  refine Met.ofW (cc := cX8_pin) (maxL := 6) (ret := (some .boolean)) (by decide) rfl ?_
  intro p e s m args below meth c s₁ B hml hv
  obtain ⟨rfl, hw⟩ := hv
  obtain ⟨C0, Y, hO⟩ := mx_of B hml hw
  have hS : va_S (Ab G.b) s.heap s.heap [] := va_S.rf
  have hl := lv_entry ([.ref x0, .int x1, .int x2, .int x3, .int x4]) (n := 6) (Nat.le_of_ble_eq_true rfl)
  rw [lg_entry_eq]
  generalize (lg_sl ([.ref x0, .int x1, .int x2, .int x3, .int x4]) ++ List.replicate (6 - (lg_sl ([.ref x0, .int x1, .int x2, .int x3, .int x4])).length) Slot.unset).toArray = ls at hl ⊢
  have hl : lv_has ls 6 [(0, .ref x0), (1, .int x1), (2, .int x2), (3, .int x3), (4, .int x4)] := hl
  exact bX8_pin_b0 C0 Y S _ _ _ h hO hS hl

def rm_X8_struck : Room := { frames := 2, cells := 0, slots := 0, locals := 43 }
def wX8_struck_b36 (x0 : Nat) (x1 : Int32) (x2 : Int32) (Φ : Hp → Int32 → Prop) (S : Hp) : Prop := Φ S 0
set_option maxHeartbeats 4000000 in
set_option maxRecDepth 100000 in
theorem bX8_struck_b36 {p : Program} {l : Launch} {e : Env} {s : State} {m : MethodId} {args : Array Value} {below : List Frame} {meth : Method} {c : Code} {G : Gw} {x0 : Nat} {x1 : Int32} {x2 : Int32} {Φ : Hp → Int32 → Prop} (C0 : Mx p s m c cX8_struck 3 args yX8_struck.cls G) (Y : My meth (some .int))  : ∀ (S : Hp) (H : Heap) (locs : List Loc) (ls : Array Slot), wX8_struck_b36 x0 x1 x2 Φ S → Ok G S H → va_S (Ab G.b) s.heap H locs → lv_has ls 3 [(0, .ref x0), (1, .int x1), (2, .int x2)] → W p l e rm_X8_struck s m args below meth c H locs 0 0 (MQ below (gQ G (PI Φ)) args s rm_X8_struck.cells rm_X8_struck.slots (Ab G.b)) (F0 m 36 ls []) := by
  intro S H locs ls h hO hS hl
  unfold wX8_struck_b36 at h
  refine lv_iconst (v := 0) C0.1 C0.2.1 dX8_struck_36 (by decide) ?_
  refine lv_goto (tgt := 48) C0.1 C0.2.1 dX8_struck_37 (by decide) ?_
  exact e_I C0 Y hO hS h (Nat.le_refl _) (Nat.le_refl _) dX8_struck_48
def wX8_struck_b29 (x0 : Nat) (x1 : Int32) (x2 : Int32) (Φ : Hp → Int32 → Prop) (S : Hp) (z0 : Nat) (z1 : Int32) : Prop := isA S z0 8 ∧ wX8_isThrown S z0 z1 2 (fun S1 r2 => ((r2 = 0 → isA S1 x0 8 ∧ ∃ a6, S1.FR 542 x0 = some a6 ∧ isA S1 a6 26 ∧ vp_in x1 (S1.N a6) ∧ ∃ a9, S1.AR a6 x1.toNatClampNeg = some a9 ∧ isA S1 a9 21 ∧ vp_in x2 (S1.N a9) ∧ Φ S1 (S1.AI a9 x2.toNatClampNeg)) ∧ (¬ (r2 = 0) → wX8_struck_b36 x0 x1 x2 Φ S1)))
set_option maxHeartbeats 4000000 in
set_option maxRecDepth 100000 in
theorem bX8_struck_b29 {p : Program} {l : Launch} {e : Env} {s : State} {m : MethodId} {args : Array Value} {below : List Frame} {meth : Method} {c : Code} {G : Gw} {x0 : Nat} {x1 : Int32} {x2 : Int32} {Φ : Hp → Int32 → Prop} (C0 : Mx p s m c cX8_struck 3 args yX8_struck.cls G) (Y : My meth (some .int))  : ∀ (S : Hp) (z0 : Nat) (z1 : Int32) (H : Heap) (locs : List Loc) (ls : Array Slot), wX8_struck_b29 x0 x1 x2 Φ S z0 z1 → Ok G S H → va_S (Ab G.b) s.heap H locs → lv_has ls 3 [(0, .ref x0), (1, .int x1), (2, .int x2)] → W p l e rm_X8_struck s m args below meth c H locs 0 0 (MQ below (gQ G (PI Φ)) args s rm_X8_struck.cells rm_X8_struck.slots (Ab G.b)) (F0 m 29 ls [.int z1, .ref z0]) := by
  intro S z0 z1 H locs ls h hO hS hl
  unfold wX8_struck_b29 at h
  refine lv_iconst (v := 2) C0.1 C0.2.1 dX8_struck_29 (by decide) ?_
  obtain ⟨i3, h⟩ := h
  refine c_V C0 hO hS (mX8_isThrown h) i3 (by decide) rfl rfl tb_1451 tb_1453 tb_37 tb_81 tb_1454 hd_X8_isThrown rfl ⟨⟨by decide, by decide⟩, by decide, by decide⟩ hl.1 rfl (Nat.le_of_ble_eq_true rfl) dX8_struck_30 (kI (fun r2 S1 H locs h hO hS => ?_))
  refine lv_if_eq (tgt := 40) C0.1 C0.2.1 dX8_struck_33 (by decide) (fun c4 => ?_) (fun c4 => ?_)
  · have h := h.1 c4
    refine lv_aload_n C0.1 C0.2.1 dX8_struck_40 rfl (lv_at hl 0 rfl) ?_
    obtain ⟨i5, h⟩ := h
    obtain ⟨a6, ea6, h⟩ := h
    refine g8_30 C0 hO i5 ea6 tb_1358 dX8_struck_41 ?_
    refine lv_iload_n C0.1 C0.2.1 dX8_struck_44 rfl (lv_at hl 1 rfl) ?_
    obtain ⟨i7, h⟩ := h
    obtain ⟨e8, a9, ea9, h⟩ := h
    refine r_oald26 C0 hO i7 e8 dX8_struck_45 ?_
    rw [ea9]
    change W _ _ _ _ _ _ _ _ _ _ _ _ _ _ _ (F0 _ _ _ (.ref a9 :: _))
    refine lv_iload_n C0.1 C0.2.1 dX8_struck_46 rfl (lv_at hl 2 rfl) ?_
    obtain ⟨i10, h⟩ := h
    obtain ⟨e11, h⟩ := h
    refine r_iald C0 hO i10 e11 dX8_struck_47 ?_
    exact e_I C0 Y hO hS h (Nat.le_refl _) (Nat.le_refl _) dX8_struck_48
  · have h := h.2 c4
    exact bX8_struck_b36 C0 Y _ _ _ _ h hO hS (lv_sub hl [0, 1, 2] rfl)
def wX8_struck_b0 (x0 : Nat) (x1 : Int32) (x2 : Int32) (Φ : Hp → Int32 → Prop) (S : Hp) : Prop := isA S x0 8 ∧ wX8_isNoDrum S x0 x1 (fun S1 r2 => isA S1 x0 8 ∧ wX8_isThrown S1 x0 r2 1 (fun S4 r5 => ((¬ r5 = 0 → wX8_struck_b36 x0 x1 x2 Φ S4) ∧ (r5 = 0 → wX8_isIn S4 x2 0 7 (fun S8 r9 => ((¬ r9 = 0 → wX8_struck_b29 x0 x1 x2 Φ S8 x0 0) ∧ (r9 = 0 → wX8_struck_b29 x0 x1 x2 Φ S8 x0 1)))))))
set_option maxHeartbeats 4000000 in
set_option maxRecDepth 100000 in
theorem bX8_struck_b0 {p : Program} {l : Launch} {e : Env} {s : State} {m : MethodId} {args : Array Value} {below : List Frame} {meth : Method} {c : Code} {G : Gw} {x0 : Nat} {x1 : Int32} {x2 : Int32} {Φ : Hp → Int32 → Prop} (C0 : Mx p s m c cX8_struck 3 args yX8_struck.cls G) (Y : My meth (some .int))  : ∀ (S : Hp) (H : Heap) (locs : List Loc) (ls : Array Slot), wX8_struck_b0 x0 x1 x2 Φ S → Ok G S H → va_S (Ab G.b) s.heap H locs → lv_has ls 3 [(0, .ref x0), (1, .int x1), (2, .int x2)] → W p l e rm_X8_struck s m args below meth c H locs 0 0 (MQ below (gQ G (PI Φ)) args s rm_X8_struck.cells rm_X8_struck.slots (Ab G.b)) (F0 m 0 ls []) := by
  intro S H locs ls h hO hS hl
  unfold wX8_struck_b0 at h
  refine lv_aload_n C0.1 C0.2.1 dX8_struck_0 rfl (lv_at hl 0 rfl) ?_
  refine lv_aload_n C0.1 C0.2.1 dX8_struck_1 rfl (lv_at hl 0 rfl) ?_
  refine lv_iload_n C0.1 C0.2.1 dX8_struck_2 rfl (lv_at hl 1 rfl) ?_
  obtain ⟨i3, h⟩ := h
  refine c_V C0 hO hS (mX8_isNoDrum h) i3 (by decide) rfl rfl tb_1707 tb_1709 tb_66 tb_81 tb_1710 hd_X8_isNoDrum rfl ⟨⟨by decide, by decide⟩, by decide, by decide⟩ hl.1 rfl (Nat.le_of_ble_eq_true rfl) dX8_struck_3 (kI (fun r2 S1 H locs h hO hS => ?_))
  refine lv_iconst (v := 1) C0.1 C0.2.1 dX8_struck_6 (by decide) ?_
  obtain ⟨i6, h⟩ := h
  refine c_V C0 hO hS (mX8_isThrown h) i6 (by decide) rfl rfl tb_1451 tb_1453 tb_37 tb_81 tb_1454 hd_X8_isThrown rfl ⟨⟨by decide, by decide⟩, by decide, by decide⟩ hl.1 rfl (Nat.le_of_ble_eq_true rfl) dX8_struck_7 (kI (fun r5 S4 H locs h hO hS => ?_))
  refine lv_if_ne (tgt := 36) C0.1 C0.2.1 dX8_struck_10 (by decide) (fun c7 => ?_) (fun c7 => ?_)
  · have h := h.1 c7
    exact bX8_struck_b36 C0 Y _ _ _ _ h hO hS (lv_sub hl [0, 1, 2] rfl)
  · have h := h.2 c7
    refine lv_aload_n C0.1 C0.2.1 dX8_struck_13 rfl (lv_at hl 0 rfl) ?_
    refine lv_iload_n C0.1 C0.2.1 dX8_struck_14 rfl (lv_at hl 2 rfl) ?_
    refine lv_iconst (v := 0) C0.1 C0.2.1 dX8_struck_15 (by decide) ?_
    refine lv_bipush (v := 7) C0.1 C0.2.1 dX8_struck_16 (by decide) ?_
    refine c_S C0 hO hS (mX8_isIn h) tb_1463 tb_1464 tb_81 tb_1465 hd_X8_isIn rfl ⟨⟨by decide, by decide⟩, by decide, by decide⟩ hl.1 rfl (Nat.le_of_ble_eq_true rfl) dX8_struck_18 (kI (fun r9 S8 H locs h hO hS => ?_))
    refine lv_if_ne (tgt := 28) C0.1 C0.2.1 dX8_struck_21 (by decide) (fun c10 => ?_) (fun c10 => ?_)
    · have h := h.1 c10
      refine lv_iconst (v := 0) C0.1 C0.2.1 dX8_struck_28 (by decide) ?_
      exact bX8_struck_b29 C0 Y _ _ _ _ _ _ h hO hS (lv_sub hl [0, 1, 2] rfl)
    · have h := h.2 c10
      refine lv_iconst (v := 1) C0.1 C0.2.1 dX8_struck_24 (by decide) ?_
      refine lv_goto (tgt := 29) C0.1 C0.2.1 dX8_struck_25 (by decide) ?_
      exact bX8_struck_b29 C0 Y _ _ _ _ _ _ h hO hS (lv_sub hl [0, 1, 2] rfl)
def wX8_struck (S : Hp) (x0 : Nat) (x1 : Int32) (x2 : Int32) (Φ : Hp → Int32 → Prop) : Prop := wX8_struck_b0 x0 x1 x2 Φ S
set_option maxRecDepth 100000 in
theorem mX8_struck {l : Launch} {G : Gw} {S : Hp} {x0 : Nat} {x1 : Int32} {x2 : Int32} {Φ : Hp → Int32 → Prop} (h : wX8_struck S x0 x1 x2 Φ) : gM l yX8_struck cX8_struck 3 (some .int) rm_X8_struck [.ref x0, .int x1, .int x2] G S (PI Φ) := by
  unfold gM
  refine Met.ofW (cc := cX8_struck) (maxL := 3) (ret := (some .int)) (by decide) rfl ?_
  intro p e s m args below meth c s₁ B hml hv
  obtain ⟨rfl, hw⟩ := hv
  obtain ⟨C0, Y, hO⟩ := mx_of B hml hw
  have hS : va_S (Ab G.b) s.heap s.heap [] := va_S.rf
  have hl := lv_entry ([.ref x0, .int x1, .int x2]) (n := 3) (Nat.le_of_ble_eq_true rfl)
  rw [lg_entry_eq]
  generalize (lg_sl ([.ref x0, .int x1, .int x2]) ++ List.replicate (3 - (lg_sl ([.ref x0, .int x1, .int x2])).length) Slot.unset).toArray = ls at hl ⊢
  have hl : lv_has ls 3 [(0, .ref x0), (1, .int x1), (2, .int x2)] := hl
  exact bX8_struck_b0 C0 Y S _ _ _ h hO hS hl

def rm_X8_areNoBars : Room := { frames := 1, cells := 0, slots := 0, locals := 22 }
def wX8_areNoBars_b51 (x0 : Nat) (x1 : Int32) (x2 : Int32) (x3 : Int32) (x4 : Int32) (Φ : Hp → Int32 → Prop) (S : Hp) (z0 : Nat) (z1 : Int32) : Prop := isA S z0 8 ∧ wX8_isThrown S z0 z1 1 (fun S1 r2 => narrow .boolean (.int r2) = .int r2 ∧ Φ S1 r2)
set_option maxHeartbeats 4000000 in
set_option maxRecDepth 100000 in
theorem bX8_areNoBars_b51 {p : Program} {l : Launch} {e : Env} {s : State} {m : MethodId} {args : Array Value} {below : List Frame} {meth : Method} {c : Code} {G : Gw} {x0 : Nat} {x1 : Int32} {x2 : Int32} {x3 : Int32} {x4 : Int32} {Φ : Hp → Int32 → Prop} (C0 : Mx p s m c cX8_areNoBars 5 args yX8_areNoBars.cls G) (Y : My meth (some .boolean))  : ∀ (S : Hp) (z0 : Nat) (z1 : Int32) (H : Heap) (locs : List Loc) (ls : Array Slot), wX8_areNoBars_b51 x0 x1 x2 x3 x4 Φ S z0 z1 → Ok G S H → va_S (Ab G.b) s.heap H locs → lv_has ls 5 [(0, .ref x0), (1, .int x1), (2, .int x2), (3, .int x3), (4, .int x4)] → W p l e rm_X8_areNoBars s m args below meth c H locs 0 0 (MQ below (gQ G (PI Φ)) args s rm_X8_areNoBars.cells rm_X8_areNoBars.slots (Ab G.b)) (F0 m 51 ls [.int z1, .ref z0]) := by
  intro S z0 z1 H locs ls h hO hS hl
  unfold wX8_areNoBars_b51 at h
  refine lv_iconst (v := 1) C0.1 C0.2.1 dX8_areNoBars_51 (by decide) ?_
  obtain ⟨i3, h⟩ := h
  refine c_V C0 hO hS (mX8_isThrown h) i3 (by decide) rfl rfl tb_1451 tb_1453 tb_37 tb_81 tb_1454 hd_X8_isThrown rfl ⟨⟨by decide, by decide⟩, by decide, by decide⟩ hl.1 rfl (Nat.le_of_ble_eq_true rfl) dX8_areNoBars_52 (kI (fun r2 S1 H locs h hO hS => ?_))
  exact e_Z C0 Y hO hS h.1 h.2 (Nat.le_refl _) (Nat.le_refl _) dX8_areNoBars_55
def wX8_areNoBars_b46 (x0 : Nat) (x1 : Int32) (x2 : Int32) (x3 : Int32) (x4 : Int32) (Φ : Hp → Int32 → Prop) (S : Hp) (z0 : Nat) : Prop := wX8_areNoBars_b51 x0 x1 x2 x3 x4 Φ S z0 1
set_option maxHeartbeats 4000000 in
set_option maxRecDepth 100000 in
theorem bX8_areNoBars_b46 {p : Program} {l : Launch} {e : Env} {s : State} {m : MethodId} {args : Array Value} {below : List Frame} {meth : Method} {c : Code} {G : Gw} {x0 : Nat} {x1 : Int32} {x2 : Int32} {x3 : Int32} {x4 : Int32} {Φ : Hp → Int32 → Prop} (C0 : Mx p s m c cX8_areNoBars 5 args yX8_areNoBars.cls G) (Y : My meth (some .boolean))  : ∀ (S : Hp) (z0 : Nat) (H : Heap) (locs : List Loc) (ls : Array Slot), wX8_areNoBars_b46 x0 x1 x2 x3 x4 Φ S z0 → Ok G S H → va_S (Ab G.b) s.heap H locs → lv_has ls 5 [(0, .ref x0), (1, .int x1), (2, .int x2), (3, .int x3), (4, .int x4)] → W p l e rm_X8_areNoBars s m args below meth c H locs 0 0 (MQ below (gQ G (PI Φ)) args s rm_X8_areNoBars.cells rm_X8_areNoBars.slots (Ab G.b)) (F0 m 46 ls [.ref z0]) := by
  intro S z0 H locs ls h hO hS hl
  unfold wX8_areNoBars_b46 at h
  refine lv_iconst (v := 1) C0.1 C0.2.1 dX8_areNoBars_46 (by decide) ?_
  refine lv_goto (tgt := 51) C0.1 C0.2.1 dX8_areNoBars_47 (by decide) ?_
  exact bX8_areNoBars_b51 C0 Y _ _ _ _ _ _ h hO hS (lv_sub hl [0, 1, 2, 3, 4] rfl)
def wX8_areNoBars_b0 (x0 : Nat) (x1 : Int32) (x2 : Int32) (x3 : Int32) (x4 : Int32) (Φ : Hp → Int32 → Prop) (S : Hp) : Prop := wX8_isIn S x1 1 999 (fun S1 r2 => ((r2 = 0 → wX8_areNoBars_b46 x0 x1 x2 x3 x4 Φ S1 x0) ∧ (¬ (r2 = 0) → wX8_isIn S1 x2 1 999 (fun S4 r5 => ((r5 = 0 → wX8_areNoBars_b46 x0 x1 x2 x3 x4 Φ S4 x0) ∧ (¬ (r5 = 0) → wX8_isIn S4 x3 1 999 (fun S7 r8 => ((r8 = 0 → wX8_areNoBars_b46 x0 x1 x2 x3 x4 Φ S7 x0) ∧ (¬ (r8 = 0) → wX8_isIn S7 x4 1 999 (fun S10 r11 => ((¬ r11 = 0 → wX8_areNoBars_b51 x0 x1 x2 x3 x4 Φ S10 x0 0) ∧ (r11 = 0 → wX8_areNoBars_b46 x0 x1 x2 x3 x4 Φ S10 x0))))))))))))
set_option maxHeartbeats 4000000 in
set_option maxRecDepth 100000 in
theorem bX8_areNoBars_b0 {p : Program} {l : Launch} {e : Env} {s : State} {m : MethodId} {args : Array Value} {below : List Frame} {meth : Method} {c : Code} {G : Gw} {x0 : Nat} {x1 : Int32} {x2 : Int32} {x3 : Int32} {x4 : Int32} {Φ : Hp → Int32 → Prop} (C0 : Mx p s m c cX8_areNoBars 5 args yX8_areNoBars.cls G) (Y : My meth (some .boolean))  : ∀ (S : Hp) (H : Heap) (locs : List Loc) (ls : Array Slot), wX8_areNoBars_b0 x0 x1 x2 x3 x4 Φ S → Ok G S H → va_S (Ab G.b) s.heap H locs → lv_has ls 5 [(0, .ref x0), (1, .int x1), (2, .int x2), (3, .int x3), (4, .int x4)] → W p l e rm_X8_areNoBars s m args below meth c H locs 0 0 (MQ below (gQ G (PI Φ)) args s rm_X8_areNoBars.cells rm_X8_areNoBars.slots (Ab G.b)) (F0 m 0 ls []) := by
  intro S H locs ls h hO hS hl
  unfold wX8_areNoBars_b0 at h
  refine lv_aload_n C0.1 C0.2.1 dX8_areNoBars_0 rfl (lv_at hl 0 rfl) ?_
  refine lv_iload_n C0.1 C0.2.1 dX8_areNoBars_1 rfl (lv_at hl 1 rfl) ?_
  refine lv_iconst (v := 1) C0.1 C0.2.1 dX8_areNoBars_2 (by decide) ?_
  refine lv_sipush (v := 999) C0.1 C0.2.1 dX8_areNoBars_3 (by decide) ?_
  refine c_S C0 hO hS (mX8_isIn h) tb_1463 tb_1464 tb_81 tb_1465 hd_X8_isIn rfl ⟨⟨by decide, by decide⟩, by decide, by decide⟩ hl.1 rfl (Nat.le_of_ble_eq_true rfl) dX8_areNoBars_6 (kI (fun r2 S1 H locs h hO hS => ?_))
  refine lv_if_eq (tgt := 46) C0.1 C0.2.1 dX8_areNoBars_9 (by decide) (fun c3 => ?_) (fun c3 => ?_)
  · have h := h.1 c3
    exact bX8_areNoBars_b46 C0 Y _ _ _ _ _ h hO hS (lv_sub hl [0, 1, 2, 3, 4] rfl)
  · have h := h.2 c3
    refine lv_iload_n C0.1 C0.2.1 dX8_areNoBars_12 rfl (lv_at hl 2 rfl) ?_
    refine lv_iconst (v := 1) C0.1 C0.2.1 dX8_areNoBars_13 (by decide) ?_
    refine lv_sipush (v := 999) C0.1 C0.2.1 dX8_areNoBars_14 (by decide) ?_
    refine c_S C0 hO hS (mX8_isIn h) tb_1463 tb_1464 tb_81 tb_1465 hd_X8_isIn rfl ⟨⟨by decide, by decide⟩, by decide, by decide⟩ hl.1 rfl (Nat.le_of_ble_eq_true rfl) dX8_areNoBars_17 (kI (fun r5 S4 H locs h hO hS => ?_))
    refine lv_if_eq (tgt := 46) C0.1 C0.2.1 dX8_areNoBars_20 (by decide) (fun c6 => ?_) (fun c6 => ?_)
    · have h := h.1 c6
      exact bX8_areNoBars_b46 C0 Y _ _ _ _ _ h hO hS (lv_sub hl [0, 1, 2, 3, 4] rfl)
    · have h := h.2 c6
      refine lv_iload_n C0.1 C0.2.1 dX8_areNoBars_23 rfl (lv_at hl 3 rfl) ?_
      refine lv_iconst (v := 1) C0.1 C0.2.1 dX8_areNoBars_24 (by decide) ?_
      refine lv_sipush (v := 999) C0.1 C0.2.1 dX8_areNoBars_25 (by decide) ?_
      refine c_S C0 hO hS (mX8_isIn h) tb_1463 tb_1464 tb_81 tb_1465 hd_X8_isIn rfl ⟨⟨by decide, by decide⟩, by decide, by decide⟩ hl.1 rfl (Nat.le_of_ble_eq_true rfl) dX8_areNoBars_28 (kI (fun r8 S7 H locs h hO hS => ?_))
      refine lv_if_eq (tgt := 46) C0.1 C0.2.1 dX8_areNoBars_31 (by decide) (fun c9 => ?_) (fun c9 => ?_)
      · have h := h.1 c9
        exact bX8_areNoBars_b46 C0 Y _ _ _ _ _ h hO hS (lv_sub hl [0, 1, 2, 3, 4] rfl)
      · have h := h.2 c9
        refine lv_iload C0.1 C0.2.1 dX8_areNoBars_34 (lv_at hl 4 rfl) ?_
        refine lv_iconst (v := 1) C0.1 C0.2.1 dX8_areNoBars_36 (by decide) ?_
        refine lv_sipush (v := 999) C0.1 C0.2.1 dX8_areNoBars_37 (by decide) ?_
        refine c_S C0 hO hS (mX8_isIn h) tb_1463 tb_1464 tb_81 tb_1465 hd_X8_isIn rfl ⟨⟨by decide, by decide⟩, by decide, by decide⟩ hl.1 rfl (Nat.le_of_ble_eq_true rfl) dX8_areNoBars_40 (kI (fun r11 S10 H locs h hO hS => ?_))
        refine lv_if_ne (tgt := 50) C0.1 C0.2.1 dX8_areNoBars_43 (by decide) (fun c12 => ?_) (fun c12 => ?_)
        · have h := h.1 c12
          refine lv_iconst (v := 0) C0.1 C0.2.1 dX8_areNoBars_50 (by decide) ?_
          exact bX8_areNoBars_b51 C0 Y _ _ _ _ _ _ h hO hS (lv_sub hl [0, 1, 2, 3, 4] rfl)
        · have h := h.2 c12
          exact bX8_areNoBars_b46 C0 Y _ _ _ _ _ h hO hS (lv_sub hl [0, 1, 2, 3, 4] rfl)
def wX8_areNoBars (S : Hp) (x0 : Nat) (x1 : Int32) (x2 : Int32) (x3 : Int32) (x4 : Int32) (Φ : Hp → Int32 → Prop) : Prop := wX8_areNoBars_b0 x0 x1 x2 x3 x4 Φ S
set_option maxRecDepth 100000 in
theorem mX8_areNoBars {l : Launch} {G : Gw} {S : Hp} {x0 : Nat} {x1 : Int32} {x2 : Int32} {x3 : Int32} {x4 : Int32} {Φ : Hp → Int32 → Prop} (h : wX8_areNoBars S x0 x1 x2 x3 x4 Φ) : gM l yX8_areNoBars cX8_areNoBars 5 (some .boolean) rm_X8_areNoBars [.ref x0, .int x1, .int x2, .int x3, .int x4] G S (PI Φ) := by
  unfold gM
  refine Met.ofW (cc := cX8_areNoBars) (maxL := 5) (ret := (some .boolean)) (by decide) rfl ?_
  intro p e s m args below meth c s₁ B hml hv
  obtain ⟨rfl, hw⟩ := hv
  obtain ⟨C0, Y, hO⟩ := mx_of B hml hw
  have hS : va_S (Ab G.b) s.heap s.heap [] := va_S.rf
  have hl := lv_entry ([.ref x0, .int x1, .int x2, .int x3, .int x4]) (n := 5) (Nat.le_of_ble_eq_true rfl)
  rw [lg_entry_eq]
  generalize (lg_sl ([.ref x0, .int x1, .int x2, .int x3, .int x4]) ++ List.replicate (5 - (lg_sl ([.ref x0, .int x1, .int x2, .int x3, .int x4])).length) Slot.unset).toArray = ls at hl ⊢
  have hl : lv_has ls 5 [(0, .ref x0), (1, .int x1), (2, .int x2), (3, .int x3), (4, .int x4)] := hl
  exact bX8_areNoBars_b0 C0 Y S _ _ _ h hO hS hl

def rm_X8_bars : Room := { frames := 2, cells := 0, slots := 0, locals := 46 }
def wX8_bars_b0 (x0 : Nat) (x1 : Int32) (x2 : Int32) (x3 : Int32) (x4 : Int32) (Φ : Hp → Int32 → Prop) (S : Hp) : Prop := isA S x0 8 ∧ wX8_areNoBars S x0 x1 x2 x3 x4 (fun S1 r2 => ((r2 = 0 → (((2 * (if (if x1 < x2 then x2 else x1) < (if x3 < x4 then x4 else x3) then (if x3 < x4 then x4 else x3) else (if x1 < x2 then x2 else x1))) < (((x1 + x2) + x3) + x4) → (((2 * ((if (if x1 < x2 then x2 else x1) < (if x3 < x4 then x4 else x3) then (if x3 < x4 then x4 else x3) else (if x1 < x2 then x2 else x1)) + (if (if x4 < x3 then x4 else x3) < (if x2 < x1 then x2 else x1) then (if x4 < x3 then x4 else x3) else (if x2 < x1 then x2 else x1)))) < (((x1 + x2) + x3) + x4) → ((¬ x1 = (if (if x4 < x3 then x4 else x3) < (if x2 < x1 then x2 else x1) then (if x4 < x3 then x4 else x3) else (if x2 < x1 then x2 else x1)) → ((¬ x3 = (if (if x4 < x3 then x4 else x3) < (if x2 < x1 then x2 else x1) then (if x4 < x3 then x4 else x3) else (if x2 < x1 then x2 else x1)) → ((¬ x4 = (if (if x4 < x3 then x4 else x3) < (if x2 < x1 then x2 else x1) then (if x4 < x3 then x4 else x3) else (if x2 < x1 then x2 else x1)) → Φ S1 111) ∧ (x4 = (if (if x4 < x3 then x4 else x3) < (if x2 < x1 then x2 else x1) then (if x4 < x3 then x4 else x3) else (if x2 < x1 then x2 else x1)) → Φ S1 100))) ∧ (x3 = (if (if x4 < x3 then x4 else x3) < (if x2 < x1 then x2 else x1) then (if x4 < x3 then x4 else x3) else (if x2 < x1 then x2 else x1)) → Φ S1 114))) ∧ (x1 = (if (if x4 < x3 then x4 else x3) < (if x2 < x1 then x2 else x1) then (if x4 < x3 then x4 else x3) else (if x2 < x1 then x2 else x1)) → Φ S1 99))) ∧ (¬ ((2 * ((if (if x1 < x2 then x2 else x1) < (if x3 < x4 then x4 else x3) then (if x3 < x4 then x4 else x3) else (if x1 < x2 then x2 else x1)) + (if (if x4 < x3 then x4 else x3) < (if x2 < x1 then x2 else x1) then (if x4 < x3 then x4 else x3) else (if x2 < x1 then x2 else x1)))) < (((x1 + x2) + x3) + x4)) → ((¬ (2 * ((if (if x1 < x2 then x2 else x1) < (if x3 < x4 then x4 else x3) then (if x3 < x4 then x4 else x3) else (if x1 < x2 then x2 else x1)) + (if (if x4 < x3 then x4 else x3) < (if x2 < x1 then x2 else x1) then (if x4 < x3 then x4 else x3) else (if x2 < x1 then x2 else x1)))) = (((x1 + x2) + x3) + x4) → Φ S1 116) ∧ ((2 * ((if (if x1 < x2 then x2 else x1) < (if x3 < x4 then x4 else x3) then (if x3 < x4 then x4 else x3) else (if x1 < x2 then x2 else x1)) + (if (if x4 < x3 then x4 else x3) < (if x2 < x1 then x2 else x1) then (if x4 < x3 then x4 else x3) else (if x2 < x1 then x2 else x1)))) = (((x1 + x2) + x3) + x4) → Φ S1 101))))) ∧ (¬ ((2 * (if (if x1 < x2 then x2 else x1) < (if x3 < x4 then x4 else x3) then (if x3 < x4 then x4 else x3) else (if x1 < x2 then x2 else x1))) < (((x1 + x2) + x3) + x4)) → Φ S1 120))) ∧ (¬ (r2 = 0) → Φ S1 32)))
set_option maxHeartbeats 4000000 in
set_option maxRecDepth 100000 in
theorem bX8_bars_b0 {p : Program} {l : Launch} {e : Env} {s : State} {m : MethodId} {args : Array Value} {below : List Frame} {meth : Method} {c : Code} {G : Gw} {x0 : Nat} {x1 : Int32} {x2 : Int32} {x3 : Int32} {x4 : Int32} {Φ : Hp → Int32 → Prop} (C0 : Mx p s m c cX8_bars 9 args yX8_bars.cls G) (Y : My meth (some .char))  : ∀ (S : Hp) (H : Heap) (locs : List Loc) (ls : Array Slot), wX8_bars_b0 x0 x1 x2 x3 x4 Φ S → Ok G S H → va_S (Ab G.b) s.heap H locs → lv_has ls 9 [(0, .ref x0), (1, .int x1), (2, .int x2), (3, .int x3), (4, .int x4)] → W p l e rm_X8_bars s m args below meth c H locs 0 0 (MQ below (gQ G (PI Φ)) args s rm_X8_bars.cells rm_X8_bars.slots (Ab G.b)) (F0 m 0 ls []) := by
  intro S H locs ls h hO hS hl
  unfold wX8_bars_b0 at h
  refine lv_aload_n C0.1 C0.2.1 dX8_bars_0 rfl (lv_at hl 0 rfl) ?_
  refine lv_iload_n C0.1 C0.2.1 dX8_bars_1 rfl (lv_at hl 1 rfl) ?_
  refine lv_iload_n C0.1 C0.2.1 dX8_bars_2 rfl (lv_at hl 2 rfl) ?_
  refine lv_iload_n C0.1 C0.2.1 dX8_bars_3 rfl (lv_at hl 3 rfl) ?_
  refine lv_iload C0.1 C0.2.1 dX8_bars_4 (lv_at hl 4 rfl) ?_
  obtain ⟨i3, h⟩ := h
  refine c_V C0 hO hS (mX8_areNoBars h) i3 (by decide) rfl rfl tb_1719 tb_1721 tb_67 tb_81 tb_1722 hd_X8_areNoBars rfl ⟨⟨by decide, by decide⟩, by decide, by decide⟩ hl.1 rfl (Nat.le_of_ble_eq_true rfl) dX8_bars_6 (kI (fun r2 S1 H locs h hO hS => ?_))
  refine lv_if_eq (tgt := 15) C0.1 C0.2.1 dX8_bars_9 (by decide) (fun c4 => ?_) (fun c4 => ?_)
  · have h := h.1 c4
    refine lv_iload_n C0.1 C0.2.1 dX8_bars_15 rfl (lv_at hl 1 rfl) ?_
    refine lv_iload_n C0.1 C0.2.1 dX8_bars_16 rfl (lv_at hl 2 rfl) ?_
    refine lv_iadd C0.1 C0.2.1 dX8_bars_17 ?_
    refine lv_iload_n C0.1 C0.2.1 dX8_bars_18 rfl (lv_at hl 3 rfl) ?_
    refine lv_iadd C0.1 C0.2.1 dX8_bars_19 ?_
    refine lv_iload C0.1 C0.2.1 dX8_bars_20 (lv_at hl 4 rfl) ?_
    refine lv_iadd C0.1 C0.2.1 dX8_bars_22 ?_
    refine lv_istore C0.1 C0.2.1 dX8_bars_23 hl (by decide) rfl (fun ls hl => ?_)
    refine lv_iload_n C0.1 C0.2.1 dX8_bars_25 rfl (lv_at hl 2 rfl) ?_
    refine lv_iload_n C0.1 C0.2.1 dX8_bars_26 rfl (lv_at hl 3 rfl) ?_
    refine va_mmax C0.1 C0.2.1 (C0.2.2.1.trans hl.1.symm) C0.2.2.2.1 (C0.2.2.2.2.1 _ tb_1485) (C0.2.2.2.2.1 _ tb_405) (C0.2.2.2.2.1 _ tb_94) (C0.2.2.2.2.1 _ tb_406) (Nat.le_of_ble_eq_true rfl) (Nat.le_of_ble_eq_true rfl) (by decide) (by decide) dX8_bars_27 ?_
    refine lv_iload_n C0.1 C0.2.1 dX8_bars_30 rfl (lv_at hl 4 rfl) ?_
    refine lv_iload C0.1 C0.2.1 dX8_bars_31 (lv_at hl 5 rfl) ?_
    refine va_mmax C0.1 C0.2.1 (C0.2.2.1.trans hl.1.symm) C0.2.2.2.1 (C0.2.2.2.2.1 _ tb_1485) (C0.2.2.2.2.1 _ tb_405) (C0.2.2.2.2.1 _ tb_94) (C0.2.2.2.2.1 _ tb_406) (Nat.le_of_ble_eq_true rfl) (Nat.le_of_ble_eq_true rfl) (by decide) (by decide) dX8_bars_33 ?_
    refine va_mmax C0.1 C0.2.1 (C0.2.2.1.trans hl.1.symm) C0.2.2.2.1 (C0.2.2.2.2.1 _ tb_1485) (C0.2.2.2.2.1 _ tb_405) (C0.2.2.2.2.1 _ tb_94) (C0.2.2.2.2.1 _ tb_406) (Nat.le_of_ble_eq_true rfl) (Nat.le_of_ble_eq_true rfl) (by decide) (by decide) dX8_bars_36 ?_
    refine lv_istore C0.1 C0.2.1 dX8_bars_39 hl (by decide) rfl (fun ls hl => ?_)
    refine lv_iload_n C0.1 C0.2.1 dX8_bars_41 rfl (lv_at hl 3 rfl) ?_
    refine lv_iload_n C0.1 C0.2.1 dX8_bars_42 rfl (lv_at hl 4 rfl) ?_
    refine va_mmin C0.1 C0.2.1 (C0.2.2.1.trans hl.1.symm) C0.2.2.2.1 (C0.2.2.2.2.1 _ tb_1723) (C0.2.2.2.2.1 _ tb_297) (C0.2.2.2.2.1 _ tb_94) (C0.2.2.2.2.1 _ tb_298) (Nat.le_of_ble_eq_true rfl) (Nat.le_of_ble_eq_true rfl) (by decide) (by decide) dX8_bars_43 ?_
    refine lv_iload_n C0.1 C0.2.1 dX8_bars_46 rfl (lv_at hl 5 rfl) ?_
    refine lv_iload C0.1 C0.2.1 dX8_bars_47 (lv_at hl 6 rfl) ?_
    refine va_mmin C0.1 C0.2.1 (C0.2.2.1.trans hl.1.symm) C0.2.2.2.1 (C0.2.2.2.2.1 _ tb_1723) (C0.2.2.2.2.1 _ tb_297) (C0.2.2.2.2.1 _ tb_94) (C0.2.2.2.2.1 _ tb_298) (Nat.le_of_ble_eq_true rfl) (Nat.le_of_ble_eq_true rfl) (by decide) (by decide) dX8_bars_49 ?_
    refine va_mmin C0.1 C0.2.1 (C0.2.2.1.trans hl.1.symm) C0.2.2.2.1 (C0.2.2.2.2.1 _ tb_1723) (C0.2.2.2.2.1 _ tb_297) (C0.2.2.2.2.1 _ tb_94) (C0.2.2.2.2.1 _ tb_298) (Nat.le_of_ble_eq_true rfl) (Nat.le_of_ble_eq_true rfl) (by decide) (by decide) dX8_bars_52 ?_
    refine lv_istore C0.1 C0.2.1 dX8_bars_55 hl (by decide) rfl (fun ls hl => ?_)
    refine lv_iconst (v := 2) C0.1 C0.2.1 dX8_bars_57 (by decide) ?_
    refine lv_iload C0.1 C0.2.1 dX8_bars_58 (lv_at hl 1 rfl) ?_
    refine lv_imul C0.1 C0.2.1 dX8_bars_60 ?_
    refine lv_iload C0.1 C0.2.1 dX8_bars_61 (lv_at hl 2 rfl) ?_
    refine lv_icmp_lt (tgt := 69) C0.1 C0.2.1 dX8_bars_63 (by decide) (fun c5 => ?_) (fun c5 => ?_)
    · have h := h.1 c5
      refine lv_iconst (v := 2) C0.1 C0.2.1 dX8_bars_69 (by decide) ?_
      refine lv_iload C0.1 C0.2.1 dX8_bars_70 (lv_at hl 1 rfl) ?_
      refine lv_iload C0.1 C0.2.1 dX8_bars_72 (lv_at hl 0 rfl) ?_
      refine lv_iadd C0.1 C0.2.1 dX8_bars_74 ?_
      refine lv_imul C0.1 C0.2.1 dX8_bars_75 ?_
      refine lv_istore C0.1 C0.2.1 dX8_bars_76 hl (by decide) rfl (fun ls hl => ?_)
      refine lv_iload C0.1 C0.2.1 dX8_bars_78 (lv_at hl 0 rfl) ?_
      refine lv_iload C0.1 C0.2.1 dX8_bars_80 (lv_at hl 3 rfl) ?_
      refine lv_icmp_lt (tgt := 100) C0.1 C0.2.1 dX8_bars_82 (by decide) (fun c6 => ?_) (fun c6 => ?_)
      · have h := h.1 c6
        refine lv_iload_n C0.1 C0.2.1 dX8_bars_100 rfl (lv_at hl 5 rfl) ?_
        refine lv_iload C0.1 C0.2.1 dX8_bars_101 (lv_at hl 1 rfl) ?_
        refine lv_icmp_ne (tgt := 111) C0.1 C0.2.1 dX8_bars_103 (by decide) (fun c7 => ?_) (fun c7 => ?_)
        · have h := h.1 c7
          refine lv_iload_n C0.1 C0.2.1 dX8_bars_111 rfl (lv_at hl 7 rfl) ?_
          refine lv_iload C0.1 C0.2.1 dX8_bars_112 (lv_at hl 1 rfl) ?_
          refine lv_icmp_ne (tgt := 122) C0.1 C0.2.1 dX8_bars_114 (by decide) (fun c8 => ?_) (fun c8 => ?_)
          · have h := h.1 c8
            refine lv_iload C0.1 C0.2.1 dX8_bars_122 (lv_at hl 8 rfl) ?_
            refine lv_iload C0.1 C0.2.1 dX8_bars_124 (lv_at hl 1 rfl) ?_
            refine lv_icmp_ne (tgt := 134) C0.1 C0.2.1 dX8_bars_126 (by decide) (fun c9 => ?_) (fun c9 => ?_)
            · have h := h.1 c9
              refine lv_bipush (v := 111) C0.1 C0.2.1 dX8_bars_134 (by decide) ?_
              exact e_Z C0 Y hO hS rfl h (Nat.le_refl _) (Nat.le_refl _) dX8_bars_136
            · have h := h.2 c9
              refine lv_bipush (v := 100) C0.1 C0.2.1 dX8_bars_129 (by decide) ?_
              refine lv_goto (tgt := 136) C0.1 C0.2.1 dX8_bars_131 (by decide) ?_
              exact e_Z C0 Y hO hS rfl h (Nat.le_refl _) (Nat.le_refl _) dX8_bars_136
          · have h := h.2 c8
            refine lv_bipush (v := 114) C0.1 C0.2.1 dX8_bars_117 (by decide) ?_
            refine lv_goto (tgt := 136) C0.1 C0.2.1 dX8_bars_119 (by decide) ?_
            exact e_Z C0 Y hO hS rfl h (Nat.le_refl _) (Nat.le_refl _) dX8_bars_136
        · have h := h.2 c7
          refine lv_bipush (v := 99) C0.1 C0.2.1 dX8_bars_106 (by decide) ?_
          refine lv_goto (tgt := 136) C0.1 C0.2.1 dX8_bars_108 (by decide) ?_
          exact e_Z C0 Y hO hS rfl h (Nat.le_refl _) (Nat.le_refl _) dX8_bars_136
      · have h := h.2 c6
        refine lv_iload C0.1 C0.2.1 dX8_bars_85 (lv_at hl 0 rfl) ?_
        refine lv_iload C0.1 C0.2.1 dX8_bars_87 (lv_at hl 3 rfl) ?_
        refine lv_icmp_ne (tgt := 97) C0.1 C0.2.1 dX8_bars_89 (by decide) (fun c10 => ?_) (fun c10 => ?_)
        · have h := h.1 c10
          refine lv_bipush (v := 116) C0.1 C0.2.1 dX8_bars_97 (by decide) ?_
          exact e_Z C0 Y hO hS rfl h (Nat.le_refl _) (Nat.le_refl _) dX8_bars_99
        · have h := h.2 c10
          refine lv_bipush (v := 101) C0.1 C0.2.1 dX8_bars_92 (by decide) ?_
          refine lv_goto (tgt := 99) C0.1 C0.2.1 dX8_bars_94 (by decide) ?_
          exact e_Z C0 Y hO hS rfl h (Nat.le_refl _) (Nat.le_refl _) dX8_bars_99
    · have h := h.2 c5
      refine lv_bipush (v := 120) C0.1 C0.2.1 dX8_bars_66 (by decide) ?_
      exact e_Z C0 Y hO hS rfl h (Nat.le_refl _) (Nat.le_refl _) dX8_bars_68
  · have h := h.2 c4
    refine lv_bipush (v := 32) C0.1 C0.2.1 dX8_bars_12 (by decide) ?_
    exact e_Z C0 Y hO hS rfl h (Nat.le_refl _) (Nat.le_refl _) dX8_bars_14
def wX8_bars (S : Hp) (x0 : Nat) (x1 : Int32) (x2 : Int32) (x3 : Int32) (x4 : Int32) (Φ : Hp → Int32 → Prop) : Prop := wX8_bars_b0 x0 x1 x2 x3 x4 Φ S
set_option maxRecDepth 100000 in
theorem mX8_bars {l : Launch} {G : Gw} {S : Hp} {x0 : Nat} {x1 : Int32} {x2 : Int32} {x3 : Int32} {x4 : Int32} {Φ : Hp → Int32 → Prop} (h : wX8_bars S x0 x1 x2 x3 x4 Φ) : gM l yX8_bars cX8_bars 9 (some .char) rm_X8_bars [.ref x0, .int x1, .int x2, .int x3, .int x4] G S (PI Φ) := by
  unfold gM
  refine Met.ofW (cc := cX8_bars) (maxL := 9) (ret := (some .char)) (by decide) rfl ?_
  intro p e s m args below meth c s₁ B hml hv
  obtain ⟨rfl, hw⟩ := hv
  obtain ⟨C0, Y, hO⟩ := mx_of B hml hw
  have hS : va_S (Ab G.b) s.heap s.heap [] := va_S.rf
  have hl := lv_entry ([.ref x0, .int x1, .int x2, .int x3, .int x4]) (n := 9) (Nat.le_of_ble_eq_true rfl)
  rw [lg_entry_eq]
  generalize (lg_sl ([.ref x0, .int x1, .int x2, .int x3, .int x4]) ++ List.replicate (9 - (lg_sl ([.ref x0, .int x1, .int x2, .int x3, .int x4])).length) Slot.unset).toArray = ls at hl ⊢
  have hl : lv_has ls 9 [(0, .ref x0), (1, .int x1), (2, .int x2), (3, .int x3), (4, .int x4)] := hl
  exact bX8_bars_b0 C0 Y S _ _ _ h hO hS hl

def rm_X8_cosine : Room := { frames := 3, cells := 0, slots := 0, locals := 70 }
def wX8_cosine_b27 (x0 : Nat) (x1 : Int32) (x2 : Int32) (x3 : Int32) (x4 : Int32) (Φ : Hp → Int64 → Prop) (S : Hp) (z0 : Nat) (z1 : Int32) : Prop := isA S z0 8 ∧ wX8_isThrown S z0 z1 2 (fun S1 r2 => ((r2 = 0 → isA S1 x0 8 ∧ wX8_result S1 x0 (((x1.toInt64 * x1.toInt64) + (x2.toInt64 * x2.toInt64)) - (x3.toInt64 * x3.toInt64)) ((2 * x1.toInt64) * x2.toInt64) (fun S5 => ((x4 = 0 → isA S5 x0 8 ∧ Φ S5 (S5.FJ 548 x0)) ∧ (¬ (x4 = 0) → isA S5 x0 8 ∧ Φ S5 (S5.FJ 547 x0))))) ∧ (¬ (r2 = 0) → Φ S1 0)))
set_option maxHeartbeats 4000000 in
set_option maxRecDepth 100000 in
theorem bX8_cosine_b27 {p : Program} {l : Launch} {e : Env} {s : State} {m : MethodId} {args : Array Value} {below : List Frame} {meth : Method} {c : Code} {G : Gw} {x0 : Nat} {x1 : Int32} {x2 : Int32} {x3 : Int32} {x4 : Int32} {Φ : Hp → Int64 → Prop} (C0 : Mx p s m c cX8_cosine 5 args yX8_cosine.cls G) (Y : My meth (some .long))  : ∀ (S : Hp) (z0 : Nat) (z1 : Int32) (H : Heap) (locs : List Loc) (ls : Array Slot), wX8_cosine_b27 x0 x1 x2 x3 x4 Φ S z0 z1 → Ok G S H → va_S (Ab G.b) s.heap H locs → lv_has ls 5 [(0, .ref x0), (1, .int x1), (2, .int x2), (3, .int x3), (4, .int x4)] → W p l e rm_X8_cosine s m args below meth c H locs 0 0 (MQ below (gQ G (PJ Φ)) args s rm_X8_cosine.cells rm_X8_cosine.slots (Ab G.b)) (F0 m 27 ls [.int z1, .ref z0]) := by
  intro S z0 z1 H locs ls h hO hS hl
  unfold wX8_cosine_b27 at h
  refine lv_iconst (v := 2) C0.1 C0.2.1 dX8_cosine_27 (by decide) ?_
  obtain ⟨i3, h⟩ := h
  refine c_V C0 hO hS (mX8_isThrown h) i3 (by decide) rfl rfl tb_1451 tb_1453 tb_37 tb_81 tb_1454 hd_X8_isThrown rfl ⟨⟨by decide, by decide⟩, by decide, by decide⟩ hl.1 rfl (Nat.le_of_ble_eq_true rfl) dX8_cosine_28 (kI (fun r2 S1 H locs h hO hS => ?_))
  refine lv_if_eq (tgt := 36) C0.1 C0.2.1 dX8_cosine_31 (by decide) (fun c4 => ?_) (fun c4 => ?_)
  · have h := h.1 c4
    refine lv_aload_n C0.1 C0.2.1 dX8_cosine_36 rfl (lv_at hl 0 rfl) ?_
    refine lv_iload_n C0.1 C0.2.1 dX8_cosine_37 rfl (lv_at hl 1 rfl) ?_
    refine lv_i2l C0.1 C0.2.1 dX8_cosine_38 rfl ?_
    refine lv_iload_n C0.1 C0.2.1 dX8_cosine_39 rfl (lv_at hl 1 rfl) ?_
    refine lv_i2l C0.1 C0.2.1 dX8_cosine_40 rfl ?_
    refine lv_lmul C0.1 C0.2.1 dX8_cosine_41 ?_
    refine lv_iload_n C0.1 C0.2.1 dX8_cosine_42 rfl (lv_at hl 2 rfl) ?_
    refine lv_i2l C0.1 C0.2.1 dX8_cosine_43 rfl ?_
    refine lv_iload_n C0.1 C0.2.1 dX8_cosine_44 rfl (lv_at hl 2 rfl) ?_
    refine lv_i2l C0.1 C0.2.1 dX8_cosine_45 rfl ?_
    refine lv_lmul C0.1 C0.2.1 dX8_cosine_46 ?_
    refine lv_ladd C0.1 C0.2.1 dX8_cosine_47 ?_
    refine lv_iload_n C0.1 C0.2.1 dX8_cosine_48 rfl (lv_at hl 3 rfl) ?_
    refine lv_i2l C0.1 C0.2.1 dX8_cosine_49 rfl ?_
    refine lv_iload_n C0.1 C0.2.1 dX8_cosine_50 rfl (lv_at hl 3 rfl) ?_
    refine lv_i2l C0.1 C0.2.1 dX8_cosine_51 rfl ?_
    refine lv_lmul C0.1 C0.2.1 dX8_cosine_52 ?_
    refine lv_lsub C0.1 C0.2.1 dX8_cosine_53 ?_
    refine lv_ldc2 (v := 2) C0.1 C0.2.1 C0.2.2.2.1 (C0.2.2.2.2.1 _ tb_1674) dX8_cosine_54 ?_
    refine lv_iload_n C0.1 C0.2.1 dX8_cosine_57 rfl (lv_at hl 1 rfl) ?_
    refine lv_i2l C0.1 C0.2.1 dX8_cosine_58 rfl ?_
    refine lv_lmul C0.1 C0.2.1 dX8_cosine_59 ?_
    refine lv_iload_n C0.1 C0.2.1 dX8_cosine_60 rfl (lv_at hl 2 rfl) ?_
    refine lv_i2l C0.1 C0.2.1 dX8_cosine_61 rfl ?_
    refine lv_lmul C0.1 C0.2.1 dX8_cosine_62 ?_
    obtain ⟨i6, h⟩ := h
    refine c_V C0 hO hS (mX8_result h) i6 (by decide) rfl rfl tb_1532 tb_1534 tb_48 tb_81 tb_1535 hd_X8_result rfl ⟨⟨by decide, by decide⟩, by decide, by decide⟩ hl.1 rfl (Nat.le_of_ble_eq_true rfl) dX8_cosine_63 (kV (fun S5 H locs h hO hS => ?_))
    refine lv_iload C0.1 C0.2.1 dX8_cosine_66 (lv_at hl 4 rfl) ?_
    refine lv_if_eq (tgt := 78) C0.1 C0.2.1 dX8_cosine_68 (by decide) (fun c7 => ?_) (fun c7 => ?_)
    · have h := h.1 c7
      refine lv_aload_n C0.1 C0.2.1 dX8_cosine_78 rfl (lv_at hl 0 rfl) ?_
      obtain ⟨i8, h⟩ := h
      refine g8_36 C0 hO i8 tb_1364 dX8_cosine_79 ?_
      exact e_J C0 Y hO hS h (Nat.le_refl _) (Nat.le_refl _) dX8_cosine_82
    · have h := h.2 c7
      refine lv_aload_n C0.1 C0.2.1 dX8_cosine_71 rfl (lv_at hl 0 rfl) ?_
      obtain ⟨i9, h⟩ := h
      refine g8_35 C0 hO i9 tb_1363 dX8_cosine_72 ?_
      refine lv_goto (tgt := 82) C0.1 C0.2.1 dX8_cosine_75 (by decide) ?_
      exact e_J C0 Y hO hS h (Nat.le_refl _) (Nat.le_refl _) dX8_cosine_82
  · have h := h.2 c4
    refine lv_lconst (v := 0) C0.1 C0.2.1 dX8_cosine_34 (by decide) ?_
    exact e_J C0 Y hO hS h (Nat.le_refl _) (Nat.le_refl _) dX8_cosine_35
def wX8_cosine_b22 (x0 : Nat) (x1 : Int32) (x2 : Int32) (x3 : Int32) (x4 : Int32) (Φ : Hp → Int64 → Prop) (S : Hp) (z0 : Nat) : Prop := wX8_cosine_b27 x0 x1 x2 x3 x4 Φ S z0 1
set_option maxHeartbeats 4000000 in
set_option maxRecDepth 100000 in
theorem bX8_cosine_b22 {p : Program} {l : Launch} {e : Env} {s : State} {m : MethodId} {args : Array Value} {below : List Frame} {meth : Method} {c : Code} {G : Gw} {x0 : Nat} {x1 : Int32} {x2 : Int32} {x3 : Int32} {x4 : Int32} {Φ : Hp → Int64 → Prop} (C0 : Mx p s m c cX8_cosine 5 args yX8_cosine.cls G) (Y : My meth (some .long))  : ∀ (S : Hp) (z0 : Nat) (H : Heap) (locs : List Loc) (ls : Array Slot), wX8_cosine_b22 x0 x1 x2 x3 x4 Φ S z0 → Ok G S H → va_S (Ab G.b) s.heap H locs → lv_has ls 5 [(0, .ref x0), (1, .int x1), (2, .int x2), (3, .int x3), (4, .int x4)] → W p l e rm_X8_cosine s m args below meth c H locs 0 0 (MQ below (gQ G (PJ Φ)) args s rm_X8_cosine.cells rm_X8_cosine.slots (Ab G.b)) (F0 m 22 ls [.ref z0]) := by
  intro S z0 H locs ls h hO hS hl
  unfold wX8_cosine_b22 at h
  refine lv_iconst (v := 1) C0.1 C0.2.1 dX8_cosine_22 (by decide) ?_
  refine lv_goto (tgt := 27) C0.1 C0.2.1 dX8_cosine_23 (by decide) ?_
  exact bX8_cosine_b27 C0 Y _ _ _ _ _ _ h hO hS (lv_sub hl [0, 1, 2, 3, 4] rfl)
def wX8_cosine_b0 (x0 : Nat) (x1 : Int32) (x2 : Int32) (x3 : Int32) (x4 : Int32) (Φ : Hp → Int64 → Prop) (S : Hp) : Prop := ((x3 ≤ 0 → wX8_cosine_b22 x0 x1 x2 x3 x4 Φ S x0) ∧ (¬ (x3 ≤ 0) → (((x1 + x2) ≤ x3 → wX8_cosine_b22 x0 x1 x2 x3 x4 Φ S x0) ∧ (¬ ((x1 + x2) ≤ x3) → (((if 0 ≤ (x1 - x2) then (x1 - x2) else 0 - (x1 - x2)) < x3 → wX8_cosine_b27 x0 x1 x2 x3 x4 Φ S x0 0) ∧ (¬ ((if 0 ≤ (x1 - x2) then (x1 - x2) else 0 - (x1 - x2)) < x3) → wX8_cosine_b22 x0 x1 x2 x3 x4 Φ S x0))))))
set_option maxHeartbeats 4000000 in
set_option maxRecDepth 100000 in
theorem bX8_cosine_b0 {p : Program} {l : Launch} {e : Env} {s : State} {m : MethodId} {args : Array Value} {below : List Frame} {meth : Method} {c : Code} {G : Gw} {x0 : Nat} {x1 : Int32} {x2 : Int32} {x3 : Int32} {x4 : Int32} {Φ : Hp → Int64 → Prop} (C0 : Mx p s m c cX8_cosine 5 args yX8_cosine.cls G) (Y : My meth (some .long))  : ∀ (S : Hp) (H : Heap) (locs : List Loc) (ls : Array Slot), wX8_cosine_b0 x0 x1 x2 x3 x4 Φ S → Ok G S H → va_S (Ab G.b) s.heap H locs → lv_has ls 5 [(0, .ref x0), (1, .int x1), (2, .int x2), (3, .int x3), (4, .int x4)] → W p l e rm_X8_cosine s m args below meth c H locs 0 0 (MQ below (gQ G (PJ Φ)) args s rm_X8_cosine.cells rm_X8_cosine.slots (Ab G.b)) (F0 m 0 ls []) := by
  intro S H locs ls h hO hS hl
  unfold wX8_cosine_b0 at h
  refine lv_aload_n C0.1 C0.2.1 dX8_cosine_0 rfl (lv_at hl 0 rfl) ?_
  refine lv_iload_n C0.1 C0.2.1 dX8_cosine_1 rfl (lv_at hl 3 rfl) ?_
  refine lv_if_le (tgt := 22) C0.1 C0.2.1 dX8_cosine_2 (by decide) (fun c1 => ?_) (fun c1 => ?_)
  · have h := h.1 c1
    exact bX8_cosine_b22 C0 Y _ _ _ _ _ h hO hS (lv_sub hl [0, 1, 2, 3, 4] rfl)
  · have h := h.2 c1
    refine lv_iload_n C0.1 C0.2.1 dX8_cosine_5 rfl (lv_at hl 3 rfl) ?_
    refine lv_iload_n C0.1 C0.2.1 dX8_cosine_6 rfl (lv_at hl 1 rfl) ?_
    refine lv_iload_n C0.1 C0.2.1 dX8_cosine_7 rfl (lv_at hl 2 rfl) ?_
    refine lv_iadd C0.1 C0.2.1 dX8_cosine_8 ?_
    refine lv_icmp_ge (tgt := 22) C0.1 C0.2.1 dX8_cosine_9 (by decide) (fun c2 => ?_) (fun c2 => ?_)
    · have h := h.1 c2
      exact bX8_cosine_b22 C0 Y _ _ _ _ _ h hO hS (lv_sub hl [0, 1, 2, 3, 4] rfl)
    · have h := h.2 c2
      refine lv_iload_n C0.1 C0.2.1 dX8_cosine_12 rfl (lv_at hl 3 rfl) ?_
      refine lv_iload_n C0.1 C0.2.1 dX8_cosine_13 rfl (lv_at hl 1 rfl) ?_
      refine lv_iload_n C0.1 C0.2.1 dX8_cosine_14 rfl (lv_at hl 2 rfl) ?_
      refine lv_isub C0.1 C0.2.1 dX8_cosine_15 ?_
      refine va_mabs C0.1 C0.2.1 (C0.2.2.1.trans hl.1.symm) C0.2.2.2.1 (C0.2.2.2.2.1 _ tb_1526) (C0.2.2.2.2.1 _ tb_303) (C0.2.2.2.2.1 _ tb_94) (C0.2.2.2.2.1 _ tb_304) (Nat.le_of_ble_eq_true rfl) (Nat.le_of_ble_eq_true rfl) (by decide) (by decide) dX8_cosine_16 ?_
      refine lv_icmp_gt (tgt := 26) C0.1 C0.2.1 dX8_cosine_19 (by decide) (fun c3 => ?_) (fun c3 => ?_)
      · have h := h.1 c3
        refine lv_iconst (v := 0) C0.1 C0.2.1 dX8_cosine_26 (by decide) ?_
        exact bX8_cosine_b27 C0 Y _ _ _ _ _ _ h hO hS (lv_sub hl [0, 1, 2, 3, 4] rfl)
      · have h := h.2 c3
        exact bX8_cosine_b22 C0 Y _ _ _ _ _ h hO hS (lv_sub hl [0, 1, 2, 3, 4] rfl)
def wX8_cosine (S : Hp) (x0 : Nat) (x1 : Int32) (x2 : Int32) (x3 : Int32) (x4 : Int32) (Φ : Hp → Int64 → Prop) : Prop := wX8_cosine_b0 x0 x1 x2 x3 x4 Φ S
set_option maxRecDepth 100000 in
theorem mX8_cosine {l : Launch} {G : Gw} {S : Hp} {x0 : Nat} {x1 : Int32} {x2 : Int32} {x3 : Int32} {x4 : Int32} {Φ : Hp → Int64 → Prop} (h : wX8_cosine S x0 x1 x2 x3 x4 Φ) : gM l yX8_cosine cX8_cosine 5 (some .long) rm_X8_cosine [.ref x0, .int x1, .int x2, .int x3, .int x4] G S (PJ Φ) := by
  unfold gM
  refine Met.ofW (cc := cX8_cosine) (maxL := 5) (ret := (some .long)) (by decide) rfl ?_
  intro p e s m args below meth c s₁ B hml hv
  obtain ⟨rfl, hw⟩ := hv
  obtain ⟨C0, Y, hO⟩ := mx_of B hml hw
  have hS : va_S (Ab G.b) s.heap s.heap [] := va_S.rf
  have hl := lv_entry ([.ref x0, .int x1, .int x2, .int x3, .int x4]) (n := 5) (Nat.le_of_ble_eq_true rfl)
  rw [lg_entry_eq]
  generalize (lg_sl ([.ref x0, .int x1, .int x2, .int x3, .int x4]) ++ List.replicate (5 - (lg_sl ([.ref x0, .int x1, .int x2, .int x3, .int x4])).length) Slot.unset).toArray = ls at hl ⊢
  have hl : lv_has ls 5 [(0, .ref x0), (1, .int x1), (2, .int x2), (3, .int x3), (4, .int x4)] := hl
  exact bX8_cosine_b0 C0 Y S _ _ _ h hO hS hl

def rm_X8_limit : Room := { frames := 4, cells := 0, slots := 0, locals := 94 }
def wX8_limit_b35 (x0 : Nat) (x1 : Int32) (x2 : Int32) (x3 : Int32) (x4 : Int32) (x5 : Int32) (x6 : Int32) (Φ : Hp → Int64 → Prop) (S : Hp) (z0 : Nat) (z1 : Int32) (z2 : Int32) (z3 : Int32) : Prop := isA S z0 8 ∧ wX8_cosine S z0 z1 z2 z3 x6 (fun S1 r2 => Φ S1 r2)
set_option maxHeartbeats 4000000 in
set_option maxRecDepth 100000 in
theorem bX8_limit_b35 {p : Program} {l : Launch} {e : Env} {s : State} {m : MethodId} {args : Array Value} {below : List Frame} {meth : Method} {c : Code} {G : Gw} {x0 : Nat} {x1 : Int32} {x2 : Int32} {x3 : Int32} {x4 : Int32} {x5 : Int32} {x6 : Int32} {Φ : Hp → Int64 → Prop} (C0 : Mx p s m c cX8_limit 7 args yX8_limit.cls G) (Y : My meth (some .long))  : ∀ (S : Hp) (z0 : Nat) (z1 : Int32) (z2 : Int32) (z3 : Int32) (H : Heap) (locs : List Loc) (ls : Array Slot), wX8_limit_b35 x0 x1 x2 x3 x4 x5 x6 Φ S z0 z1 z2 z3 → Ok G S H → va_S (Ab G.b) s.heap H locs → lv_has ls 7 [(0, .ref x0), (1, .int x1), (2, .int x2), (3, .int x3), (4, .int x4), (5, .int x5), (6, .int x6)] → W p l e rm_X8_limit s m args below meth c H locs 0 0 (MQ below (gQ G (PJ Φ)) args s rm_X8_limit.cells rm_X8_limit.slots (Ab G.b)) (F0 m 35 ls [.int z3, .int z2, .int z1, .ref z0]) := by
  intro S z0 z1 z2 z3 H locs ls h hO hS hl
  unfold wX8_limit_b35 at h
  refine lv_iload C0.1 C0.2.1 dX8_limit_35 (lv_at hl 6 rfl) ?_
  obtain ⟨i3, h⟩ := h
  refine c_V C0 hO hS (mX8_cosine h) i3 (by decide) rfl rfl tb_1732 tb_1734 tb_69 tb_81 tb_1735 hd_X8_cosine rfl ⟨⟨by decide, by decide⟩, by decide, by decide⟩ hl.1 rfl (Nat.le_of_ble_eq_true rfl) dX8_limit_37 (kJ (fun r2 S1 H locs h hO hS => ?_))
  exact e_J C0 Y hO hS h (Nat.le_refl _) (Nat.le_refl _) dX8_limit_40
def wX8_limit_b0 (x0 : Nat) (x1 : Int32) (x2 : Int32) (x3 : Int32) (x4 : Int32) (x5 : Int32) (x6 : Int32) (Φ : Hp → Int64 → Prop) (S : Hp) : Prop := isA S x0 8 ∧ wX8_areNoBars S x0 x1 x2 x3 x4 (fun S1 r2 => ((r2 = 0 → ((x5 = 0 → wX8_limit_b35 x0 x1 x2 x3 x4 x5 x6 Φ S1 x0 x3 x4 (if 0 ≤ (x1 - x2) then (x1 - x2) else 0 - (x1 - x2))) ∧ (¬ (x5 = 0) → wX8_limit_b35 x0 x1 x2 x3 x4 x5 x6 Φ S1 x0 x3 x4 (x1 + x2)))) ∧ (¬ (r2 = 0) → Φ S1 0)))
set_option maxHeartbeats 4000000 in
set_option maxRecDepth 100000 in
theorem bX8_limit_b0 {p : Program} {l : Launch} {e : Env} {s : State} {m : MethodId} {args : Array Value} {below : List Frame} {meth : Method} {c : Code} {G : Gw} {x0 : Nat} {x1 : Int32} {x2 : Int32} {x3 : Int32} {x4 : Int32} {x5 : Int32} {x6 : Int32} {Φ : Hp → Int64 → Prop} (C0 : Mx p s m c cX8_limit 7 args yX8_limit.cls G) (Y : My meth (some .long))  : ∀ (S : Hp) (H : Heap) (locs : List Loc) (ls : Array Slot), wX8_limit_b0 x0 x1 x2 x3 x4 x5 x6 Φ S → Ok G S H → va_S (Ab G.b) s.heap H locs → lv_has ls 7 [(0, .ref x0), (1, .int x1), (2, .int x2), (3, .int x3), (4, .int x4), (5, .int x5), (6, .int x6)] → W p l e rm_X8_limit s m args below meth c H locs 0 0 (MQ below (gQ G (PJ Φ)) args s rm_X8_limit.cells rm_X8_limit.slots (Ab G.b)) (F0 m 0 ls []) := by
  intro S H locs ls h hO hS hl
  unfold wX8_limit_b0 at h
  refine lv_aload_n C0.1 C0.2.1 dX8_limit_0 rfl (lv_at hl 0 rfl) ?_
  refine lv_iload_n C0.1 C0.2.1 dX8_limit_1 rfl (lv_at hl 1 rfl) ?_
  refine lv_iload_n C0.1 C0.2.1 dX8_limit_2 rfl (lv_at hl 2 rfl) ?_
  refine lv_iload_n C0.1 C0.2.1 dX8_limit_3 rfl (lv_at hl 3 rfl) ?_
  refine lv_iload C0.1 C0.2.1 dX8_limit_4 (lv_at hl 4 rfl) ?_
  obtain ⟨i3, h⟩ := h
  refine c_V C0 hO hS (mX8_areNoBars h) i3 (by decide) rfl rfl tb_1719 tb_1721 tb_67 tb_81 tb_1722 hd_X8_areNoBars rfl ⟨⟨by decide, by decide⟩, by decide, by decide⟩ hl.1 rfl (Nat.le_of_ble_eq_true rfl) dX8_limit_6 (kI (fun r2 S1 H locs h hO hS => ?_))
  refine lv_if_eq (tgt := 14) C0.1 C0.2.1 dX8_limit_9 (by decide) (fun c4 => ?_) (fun c4 => ?_)
  · have h := h.1 c4
    refine lv_aload_n C0.1 C0.2.1 dX8_limit_14 rfl (lv_at hl 0 rfl) ?_
    refine lv_iload_n C0.1 C0.2.1 dX8_limit_15 rfl (lv_at hl 3 rfl) ?_
    refine lv_iload C0.1 C0.2.1 dX8_limit_16 (lv_at hl 4 rfl) ?_
    refine lv_iload C0.1 C0.2.1 dX8_limit_18 (lv_at hl 5 rfl) ?_
    refine lv_if_eq (tgt := 29) C0.1 C0.2.1 dX8_limit_20 (by decide) (fun c5 => ?_) (fun c5 => ?_)
    · have h := h.1 c5
      refine lv_iload_n C0.1 C0.2.1 dX8_limit_29 rfl (lv_at hl 1 rfl) ?_
      refine lv_iload_n C0.1 C0.2.1 dX8_limit_30 rfl (lv_at hl 2 rfl) ?_
      refine lv_isub C0.1 C0.2.1 dX8_limit_31 ?_
      refine va_mabs C0.1 C0.2.1 (C0.2.2.1.trans hl.1.symm) C0.2.2.2.1 (C0.2.2.2.2.1 _ tb_1526) (C0.2.2.2.2.1 _ tb_303) (C0.2.2.2.2.1 _ tb_94) (C0.2.2.2.2.1 _ tb_304) (Nat.le_of_ble_eq_true rfl) (Nat.le_of_ble_eq_true rfl) (by decide) (by decide) dX8_limit_32 ?_
      exact bX8_limit_b35 C0 Y _ _ _ _ _ _ _ _ h hO hS (lv_sub hl [0, 1, 2, 3, 4, 5, 6] rfl)
    · have h := h.2 c5
      refine lv_iload_n C0.1 C0.2.1 dX8_limit_23 rfl (lv_at hl 1 rfl) ?_
      refine lv_iload_n C0.1 C0.2.1 dX8_limit_24 rfl (lv_at hl 2 rfl) ?_
      refine lv_iadd C0.1 C0.2.1 dX8_limit_25 ?_
      refine lv_goto (tgt := 35) C0.1 C0.2.1 dX8_limit_26 (by decide) ?_
      exact bX8_limit_b35 C0 Y _ _ _ _ _ _ _ _ h hO hS (lv_sub hl [0, 1, 2, 3, 4, 5, 6] rfl)
  · have h := h.2 c4
    refine lv_lconst (v := 0) C0.1 C0.2.1 dX8_limit_12 (by decide) ?_
    exact e_J C0 Y hO hS h (Nat.le_refl _) (Nat.le_refl _) dX8_limit_13
def wX8_limit (S : Hp) (x0 : Nat) (x1 : Int32) (x2 : Int32) (x3 : Int32) (x4 : Int32) (x5 : Int32) (x6 : Int32) (Φ : Hp → Int64 → Prop) : Prop := wX8_limit_b0 x0 x1 x2 x3 x4 x5 x6 Φ S
set_option maxRecDepth 100000 in
theorem mX8_limit {l : Launch} {G : Gw} {S : Hp} {x0 : Nat} {x1 : Int32} {x2 : Int32} {x3 : Int32} {x4 : Int32} {x5 : Int32} {x6 : Int32} {Φ : Hp → Int64 → Prop} (h : wX8_limit S x0 x1 x2 x3 x4 x5 x6 Φ) : gM l yX8_limit cX8_limit 7 (some .long) rm_X8_limit [.ref x0, .int x1, .int x2, .int x3, .int x4, .int x5, .int x6] G S (PJ Φ) := by
  unfold gM
  refine Met.ofW (cc := cX8_limit) (maxL := 7) (ret := (some .long)) (by decide) rfl ?_
  intro p e s m args below meth c s₁ B hml hv
  obtain ⟨rfl, hw⟩ := hv
  obtain ⟨C0, Y, hO⟩ := mx_of B hml hw
  have hS : va_S (Ab G.b) s.heap s.heap [] := va_S.rf
  have hl := lv_entry ([.ref x0, .int x1, .int x2, .int x3, .int x4, .int x5, .int x6]) (n := 7) (Nat.le_of_ble_eq_true rfl)
  rw [lg_entry_eq]
  generalize (lg_sl ([.ref x0, .int x1, .int x2, .int x3, .int x4, .int x5, .int x6]) ++ List.replicate (7 - (lg_sl ([.ref x0, .int x1, .int x2, .int x3, .int x4, .int x5, .int x6])).length) Slot.unset).toArray = ls at hl ⊢
  have hl : lv_has ls 7 [(0, .ref x0), (1, .int x1), (2, .int x2), (3, .int x3), (4, .int x4), (5, .int x5), (6, .int x6)] := hl
  exact bX8_limit_b0 C0 Y S _ _ _ h hO hS hl

def rm_X8_limitOver : Room := { frames := 5, cells := 0, slots := 0, locals := 120 }
def wX8_limitOver_b0 (x0 : Nat) (x1 : Int32) (x2 : Int32) (x3 : Int32) (x4 : Int32) (x5 : Int32) (Φ : Hp → Int64 → Prop) (S : Hp) : Prop := isA S x0 8 ∧ wX8_limit S x0 x1 x2 x3 x4 x5 1 (fun S1 r2 => Φ S1 r2)
set_option maxHeartbeats 4000000 in
set_option maxRecDepth 100000 in
theorem bX8_limitOver_b0 {p : Program} {l : Launch} {e : Env} {s : State} {m : MethodId} {args : Array Value} {below : List Frame} {meth : Method} {c : Code} {G : Gw} {x0 : Nat} {x1 : Int32} {x2 : Int32} {x3 : Int32} {x4 : Int32} {x5 : Int32} {Φ : Hp → Int64 → Prop} (C0 : Mx p s m c cX8_limitOver 6 args yX8_limitOver.cls G) (Y : My meth (some .long))  : ∀ (S : Hp) (H : Heap) (locs : List Loc) (ls : Array Slot), wX8_limitOver_b0 x0 x1 x2 x3 x4 x5 Φ S → Ok G S H → va_S (Ab G.b) s.heap H locs → lv_has ls 6 [(0, .ref x0), (1, .int x1), (2, .int x2), (3, .int x3), (4, .int x4), (5, .int x5)] → W p l e rm_X8_limitOver s m args below meth c H locs 0 0 (MQ below (gQ G (PJ Φ)) args s rm_X8_limitOver.cells rm_X8_limitOver.slots (Ab G.b)) (F0 m 0 ls []) := by
  intro S H locs ls h hO hS hl
  unfold wX8_limitOver_b0 at h
  refine lv_aload_n C0.1 C0.2.1 dX8_limitOver_0 rfl (lv_at hl 0 rfl) ?_
  refine lv_iload_n C0.1 C0.2.1 dX8_limitOver_1 rfl (lv_at hl 1 rfl) ?_
  refine lv_iload_n C0.1 C0.2.1 dX8_limitOver_2 rfl (lv_at hl 2 rfl) ?_
  refine lv_iload_n C0.1 C0.2.1 dX8_limitOver_3 rfl (lv_at hl 3 rfl) ?_
  refine lv_iload C0.1 C0.2.1 dX8_limitOver_4 (lv_at hl 4 rfl) ?_
  refine lv_iload C0.1 C0.2.1 dX8_limitOver_6 (lv_at hl 5 rfl) ?_
  refine lv_iconst (v := 1) C0.1 C0.2.1 dX8_limitOver_8 (by decide) ?_
  obtain ⟨i3, h⟩ := h
  refine c_V C0 hO hS (mX8_limit h) i3 (by decide) rfl rfl tb_1728 tb_1730 tb_68 tb_81 tb_1731 hd_X8_limit rfl ⟨⟨by decide, by decide⟩, by decide, by decide⟩ hl.1 rfl (Nat.le_of_ble_eq_true rfl) dX8_limitOver_9 (kJ (fun r2 S1 H locs h hO hS => ?_))
  exact e_J C0 Y hO hS h (Nat.le_refl _) (Nat.le_refl _) dX8_limitOver_12
def wX8_limitOver (S : Hp) (x0 : Nat) (x1 : Int32) (x2 : Int32) (x3 : Int32) (x4 : Int32) (x5 : Int32) (Φ : Hp → Int64 → Prop) : Prop := wX8_limitOver_b0 x0 x1 x2 x3 x4 x5 Φ S
set_option maxRecDepth 100000 in
theorem mX8_limitOver {l : Launch} {G : Gw} {S : Hp} {x0 : Nat} {x1 : Int32} {x2 : Int32} {x3 : Int32} {x4 : Int32} {x5 : Int32} {Φ : Hp → Int64 → Prop} (h : wX8_limitOver S x0 x1 x2 x3 x4 x5 Φ) : gM l yX8_limitOver cX8_limitOver 6 (some .long) rm_X8_limitOver [.ref x0, .int x1, .int x2, .int x3, .int x4, .int x5] G S (PJ Φ) := by
  unfold gM
  refine Met.ofW (cc := cX8_limitOver) (maxL := 6) (ret := (some .long)) (by decide) rfl ?_
  intro p e s m args below meth c s₁ B hml hv
  obtain ⟨rfl, hw⟩ := hv
  obtain ⟨C0, Y, hO⟩ := mx_of B hml hw
  have hS : va_S (Ab G.b) s.heap s.heap [] := va_S.rf
  have hl := lv_entry ([.ref x0, .int x1, .int x2, .int x3, .int x4, .int x5]) (n := 6) (Nat.le_of_ble_eq_true rfl)
  rw [lg_entry_eq]
  generalize (lg_sl ([.ref x0, .int x1, .int x2, .int x3, .int x4, .int x5]) ++ List.replicate (6 - (lg_sl ([.ref x0, .int x1, .int x2, .int x3, .int x4, .int x5])).length) Slot.unset).toArray = ls at hl ⊢
  have hl : lv_has ls 6 [(0, .ref x0), (1, .int x1), (2, .int x2), (3, .int x3), (4, .int x4), (5, .int x5)] := hl
  exact bX8_limitOver_b0 C0 Y S _ _ _ h hO hS hl

def rm_X8_limitUnder : Room := { frames := 5, cells := 0, slots := 0, locals := 120 }
def wX8_limitUnder_b0 (x0 : Nat) (x1 : Int32) (x2 : Int32) (x3 : Int32) (x4 : Int32) (x5 : Int32) (Φ : Hp → Int64 → Prop) (S : Hp) : Prop := isA S x0 8 ∧ wX8_limit S x0 x1 x2 x3 x4 x5 0 (fun S1 r2 => Φ S1 r2)
set_option maxHeartbeats 4000000 in
set_option maxRecDepth 100000 in
theorem bX8_limitUnder_b0 {p : Program} {l : Launch} {e : Env} {s : State} {m : MethodId} {args : Array Value} {below : List Frame} {meth : Method} {c : Code} {G : Gw} {x0 : Nat} {x1 : Int32} {x2 : Int32} {x3 : Int32} {x4 : Int32} {x5 : Int32} {Φ : Hp → Int64 → Prop} (C0 : Mx p s m c cX8_limitUnder 6 args yX8_limitUnder.cls G) (Y : My meth (some .long))  : ∀ (S : Hp) (H : Heap) (locs : List Loc) (ls : Array Slot), wX8_limitUnder_b0 x0 x1 x2 x3 x4 x5 Φ S → Ok G S H → va_S (Ab G.b) s.heap H locs → lv_has ls 6 [(0, .ref x0), (1, .int x1), (2, .int x2), (3, .int x3), (4, .int x4), (5, .int x5)] → W p l e rm_X8_limitUnder s m args below meth c H locs 0 0 (MQ below (gQ G (PJ Φ)) args s rm_X8_limitUnder.cells rm_X8_limitUnder.slots (Ab G.b)) (F0 m 0 ls []) := by
  intro S H locs ls h hO hS hl
  unfold wX8_limitUnder_b0 at h
  refine lv_aload_n C0.1 C0.2.1 dX8_limitUnder_0 rfl (lv_at hl 0 rfl) ?_
  refine lv_iload_n C0.1 C0.2.1 dX8_limitUnder_1 rfl (lv_at hl 1 rfl) ?_
  refine lv_iload_n C0.1 C0.2.1 dX8_limitUnder_2 rfl (lv_at hl 2 rfl) ?_
  refine lv_iload_n C0.1 C0.2.1 dX8_limitUnder_3 rfl (lv_at hl 3 rfl) ?_
  refine lv_iload C0.1 C0.2.1 dX8_limitUnder_4 (lv_at hl 4 rfl) ?_
  refine lv_iload C0.1 C0.2.1 dX8_limitUnder_6 (lv_at hl 5 rfl) ?_
  refine lv_iconst (v := 0) C0.1 C0.2.1 dX8_limitUnder_8 (by decide) ?_
  obtain ⟨i3, h⟩ := h
  refine c_V C0 hO hS (mX8_limit h) i3 (by decide) rfl rfl tb_1728 tb_1730 tb_68 tb_81 tb_1731 hd_X8_limit rfl ⟨⟨by decide, by decide⟩, by decide, by decide⟩ hl.1 rfl (Nat.le_of_ble_eq_true rfl) dX8_limitUnder_9 (kJ (fun r2 S1 H locs h hO hS => ?_))
  exact e_J C0 Y hO hS h (Nat.le_refl _) (Nat.le_refl _) dX8_limitUnder_12
def wX8_limitUnder (S : Hp) (x0 : Nat) (x1 : Int32) (x2 : Int32) (x3 : Int32) (x4 : Int32) (x5 : Int32) (Φ : Hp → Int64 → Prop) : Prop := wX8_limitUnder_b0 x0 x1 x2 x3 x4 x5 Φ S
set_option maxRecDepth 100000 in
theorem mX8_limitUnder {l : Launch} {G : Gw} {S : Hp} {x0 : Nat} {x1 : Int32} {x2 : Int32} {x3 : Int32} {x4 : Int32} {x5 : Int32} {Φ : Hp → Int64 → Prop} (h : wX8_limitUnder S x0 x1 x2 x3 x4 x5 Φ) : gM l yX8_limitUnder cX8_limitUnder 6 (some .long) rm_X8_limitUnder [.ref x0, .int x1, .int x2, .int x3, .int x4, .int x5] G S (PJ Φ) := by
  unfold gM
  refine Met.ofW (cc := cX8_limitUnder) (maxL := 6) (ret := (some .long)) (by decide) rfl ?_
  intro p e s m args below meth c s₁ B hml hv
  obtain ⟨rfl, hw⟩ := hv
  obtain ⟨C0, Y, hO⟩ := mx_of B hml hw
  have hS : va_S (Ab G.b) s.heap s.heap [] := va_S.rf
  have hl := lv_entry ([.ref x0, .int x1, .int x2, .int x3, .int x4, .int x5]) (n := 6) (Nat.le_of_ble_eq_true rfl)
  rw [lg_entry_eq]
  generalize (lg_sl ([.ref x0, .int x1, .int x2, .int x3, .int x4, .int x5]) ++ List.replicate (6 - (lg_sl ([.ref x0, .int x1, .int x2, .int x3, .int x4, .int x5])).length) Slot.unset).toArray = ls at hl ⊢
  have hl : lv_has ls 6 [(0, .ref x0), (1, .int x1), (2, .int x2), (3, .int x3), (4, .int x4), (5, .int x5)] := hl
  exact bX8_limitUnder_b0 C0 Y S _ _ _ h hO hS hl

def rm_X8_angle : Room := { frames := 4, cells := 0, slots := 0, locals := 94 }
def wX8_angle_b36 (x0 : Nat) (x1 : Int32) (x2 : Int32) (x3 : Int32) (x4 : Int32) (x5 : Int32) (x6 : Int32) (Φ : Hp → Int64 → Prop) (S : Hp) (z0 : Nat) (z1 : Int32) (z2 : Int32) (z3 : Int32) : Prop := isA S z0 8 ∧ wX8_cosine S z0 z1 z2 z3 x6 (fun S1 r2 => Φ S1 r2)
set_option maxHeartbeats 4000000 in
set_option maxRecDepth 100000 in
theorem bX8_angle_b36 {p : Program} {l : Launch} {e : Env} {s : State} {m : MethodId} {args : Array Value} {below : List Frame} {meth : Method} {c : Code} {G : Gw} {x0 : Nat} {x1 : Int32} {x2 : Int32} {x3 : Int32} {x4 : Int32} {x5 : Int32} {x6 : Int32} {Φ : Hp → Int64 → Prop} (C0 : Mx p s m c cX8_angle 7 args yX8_angle.cls G) (Y : My meth (some .long))  : ∀ (S : Hp) (z0 : Nat) (z1 : Int32) (z2 : Int32) (z3 : Int32) (H : Heap) (locs : List Loc) (ls : Array Slot), wX8_angle_b36 x0 x1 x2 x3 x4 x5 x6 Φ S z0 z1 z2 z3 → Ok G S H → va_S (Ab G.b) s.heap H locs → lv_has ls 7 [(0, .ref x0), (1, .int x1), (2, .int x2), (3, .int x3), (4, .int x4), (5, .int x5), (6, .int x6)] → W p l e rm_X8_angle s m args below meth c H locs 0 0 (MQ below (gQ G (PJ Φ)) args s rm_X8_angle.cells rm_X8_angle.slots (Ab G.b)) (F0 m 36 ls [.int z3, .int z2, .int z1, .ref z0]) := by
  intro S z0 z1 z2 z3 H locs ls h hO hS hl
  unfold wX8_angle_b36 at h
  refine lv_iload C0.1 C0.2.1 dX8_angle_36 (lv_at hl 6 rfl) ?_
  obtain ⟨i3, h⟩ := h
  refine c_V C0 hO hS (mX8_cosine h) i3 (by decide) rfl rfl tb_1732 tb_1734 tb_69 tb_81 tb_1735 hd_X8_cosine rfl ⟨⟨by decide, by decide⟩, by decide, by decide⟩ hl.1 rfl (Nat.le_of_ble_eq_true rfl) dX8_angle_38 (kJ (fun r2 S1 H locs h hO hS => ?_))
  exact e_J C0 Y hO hS h (Nat.le_refl _) (Nat.le_refl _) dX8_angle_41
def wX8_angle_b0 (x0 : Nat) (x1 : Int32) (x2 : Int32) (x3 : Int32) (x4 : Int32) (x5 : Int32) (x6 : Int32) (Φ : Hp → Int64 → Prop) (S : Hp) : Prop := isA S x0 8 ∧ wX8_areNoBars S x0 x1 x2 x3 x4 (fun S1 r2 => ((r2 = 0 → ((x5 = 0 → wX8_angle_b36 x0 x1 x2 x3 x4 x5 x6 Φ S1 x0 x2 x3 (if 0 ≤ (x1 - x4) then (x1 - x4) else 0 - (x1 - x4))) ∧ (¬ (x5 = 0) → wX8_angle_b36 x0 x1 x2 x3 x4 x5 x6 Φ S1 x0 x2 x3 (x1 + x4)))) ∧ (¬ (r2 = 0) → Φ S1 0)))
set_option maxHeartbeats 4000000 in
set_option maxRecDepth 100000 in
theorem bX8_angle_b0 {p : Program} {l : Launch} {e : Env} {s : State} {m : MethodId} {args : Array Value} {below : List Frame} {meth : Method} {c : Code} {G : Gw} {x0 : Nat} {x1 : Int32} {x2 : Int32} {x3 : Int32} {x4 : Int32} {x5 : Int32} {x6 : Int32} {Φ : Hp → Int64 → Prop} (C0 : Mx p s m c cX8_angle 7 args yX8_angle.cls G) (Y : My meth (some .long))  : ∀ (S : Hp) (H : Heap) (locs : List Loc) (ls : Array Slot), wX8_angle_b0 x0 x1 x2 x3 x4 x5 x6 Φ S → Ok G S H → va_S (Ab G.b) s.heap H locs → lv_has ls 7 [(0, .ref x0), (1, .int x1), (2, .int x2), (3, .int x3), (4, .int x4), (5, .int x5), (6, .int x6)] → W p l e rm_X8_angle s m args below meth c H locs 0 0 (MQ below (gQ G (PJ Φ)) args s rm_X8_angle.cells rm_X8_angle.slots (Ab G.b)) (F0 m 0 ls []) := by
  intro S H locs ls h hO hS hl
  unfold wX8_angle_b0 at h
  refine lv_aload_n C0.1 C0.2.1 dX8_angle_0 rfl (lv_at hl 0 rfl) ?_
  refine lv_iload_n C0.1 C0.2.1 dX8_angle_1 rfl (lv_at hl 1 rfl) ?_
  refine lv_iload_n C0.1 C0.2.1 dX8_angle_2 rfl (lv_at hl 2 rfl) ?_
  refine lv_iload_n C0.1 C0.2.1 dX8_angle_3 rfl (lv_at hl 3 rfl) ?_
  refine lv_iload C0.1 C0.2.1 dX8_angle_4 (lv_at hl 4 rfl) ?_
  obtain ⟨i3, h⟩ := h
  refine c_V C0 hO hS (mX8_areNoBars h) i3 (by decide) rfl rfl tb_1719 tb_1721 tb_67 tb_81 tb_1722 hd_X8_areNoBars rfl ⟨⟨by decide, by decide⟩, by decide, by decide⟩ hl.1 rfl (Nat.le_of_ble_eq_true rfl) dX8_angle_6 (kI (fun r2 S1 H locs h hO hS => ?_))
  refine lv_if_eq (tgt := 14) C0.1 C0.2.1 dX8_angle_9 (by decide) (fun c4 => ?_) (fun c4 => ?_)
  · have h := h.1 c4
    refine lv_aload_n C0.1 C0.2.1 dX8_angle_14 rfl (lv_at hl 0 rfl) ?_
    refine lv_iload_n C0.1 C0.2.1 dX8_angle_15 rfl (lv_at hl 2 rfl) ?_
    refine lv_iload_n C0.1 C0.2.1 dX8_angle_16 rfl (lv_at hl 3 rfl) ?_
    refine lv_iload C0.1 C0.2.1 dX8_angle_17 (lv_at hl 5 rfl) ?_
    refine lv_if_eq (tgt := 29) C0.1 C0.2.1 dX8_angle_19 (by decide) (fun c5 => ?_) (fun c5 => ?_)
    · have h := h.1 c5
      refine lv_iload_n C0.1 C0.2.1 dX8_angle_29 rfl (lv_at hl 1 rfl) ?_
      refine lv_iload C0.1 C0.2.1 dX8_angle_30 (lv_at hl 4 rfl) ?_
      refine lv_isub C0.1 C0.2.1 dX8_angle_32 ?_
      refine va_mabs C0.1 C0.2.1 (C0.2.2.1.trans hl.1.symm) C0.2.2.2.1 (C0.2.2.2.2.1 _ tb_1526) (C0.2.2.2.2.1 _ tb_303) (C0.2.2.2.2.1 _ tb_94) (C0.2.2.2.2.1 _ tb_304) (Nat.le_of_ble_eq_true rfl) (Nat.le_of_ble_eq_true rfl) (by decide) (by decide) dX8_angle_33 ?_
      exact bX8_angle_b36 C0 Y _ _ _ _ _ _ _ _ h hO hS (lv_sub hl [0, 1, 2, 3, 4, 5, 6] rfl)
    · have h := h.2 c5
      refine lv_iload_n C0.1 C0.2.1 dX8_angle_22 rfl (lv_at hl 1 rfl) ?_
      refine lv_iload C0.1 C0.2.1 dX8_angle_23 (lv_at hl 4 rfl) ?_
      refine lv_iadd C0.1 C0.2.1 dX8_angle_25 ?_
      refine lv_goto (tgt := 36) C0.1 C0.2.1 dX8_angle_26 (by decide) ?_
      exact bX8_angle_b36 C0 Y _ _ _ _ _ _ _ _ h hO hS (lv_sub hl [0, 1, 2, 3, 4, 5, 6] rfl)
  · have h := h.2 c4
    refine lv_lconst (v := 0) C0.1 C0.2.1 dX8_angle_12 (by decide) ?_
    exact e_J C0 Y hO hS h (Nat.le_refl _) (Nat.le_refl _) dX8_angle_13
def wX8_angle (S : Hp) (x0 : Nat) (x1 : Int32) (x2 : Int32) (x3 : Int32) (x4 : Int32) (x5 : Int32) (x6 : Int32) (Φ : Hp → Int64 → Prop) : Prop := wX8_angle_b0 x0 x1 x2 x3 x4 x5 x6 Φ S
set_option maxRecDepth 100000 in
theorem mX8_angle {l : Launch} {G : Gw} {S : Hp} {x0 : Nat} {x1 : Int32} {x2 : Int32} {x3 : Int32} {x4 : Int32} {x5 : Int32} {x6 : Int32} {Φ : Hp → Int64 → Prop} (h : wX8_angle S x0 x1 x2 x3 x4 x5 x6 Φ) : gM l yX8_angle cX8_angle 7 (some .long) rm_X8_angle [.ref x0, .int x1, .int x2, .int x3, .int x4, .int x5, .int x6] G S (PJ Φ) := by
  unfold gM
  refine Met.ofW (cc := cX8_angle) (maxL := 7) (ret := (some .long)) (by decide) rfl ?_
  intro p e s m args below meth c s₁ B hml hv
  obtain ⟨rfl, hw⟩ := hv
  obtain ⟨C0, Y, hO⟩ := mx_of B hml hw
  have hS : va_S (Ab G.b) s.heap s.heap [] := va_S.rf
  have hl := lv_entry ([.ref x0, .int x1, .int x2, .int x3, .int x4, .int x5, .int x6]) (n := 7) (Nat.le_of_ble_eq_true rfl)
  rw [lg_entry_eq]
  generalize (lg_sl ([.ref x0, .int x1, .int x2, .int x3, .int x4, .int x5, .int x6]) ++ List.replicate (7 - (lg_sl ([.ref x0, .int x1, .int x2, .int x3, .int x4, .int x5, .int x6])).length) Slot.unset).toArray = ls at hl ⊢
  have hl : lv_has ls 7 [(0, .ref x0), (1, .int x1), (2, .int x2), (3, .int x3), (4, .int x4), (5, .int x5), (6, .int x6)] := hl
  exact bX8_angle_b0 C0 Y S _ _ _ h hO hS hl

def rm_X8_angleOver : Room := { frames := 5, cells := 0, slots := 0, locals := 120 }
def wX8_angleOver_b0 (x0 : Nat) (x1 : Int32) (x2 : Int32) (x3 : Int32) (x4 : Int32) (x5 : Int32) (Φ : Hp → Int64 → Prop) (S : Hp) : Prop := isA S x0 8 ∧ wX8_angle S x0 x1 x2 x3 x4 x5 1 (fun S1 r2 => Φ S1 r2)
set_option maxHeartbeats 4000000 in
set_option maxRecDepth 100000 in
theorem bX8_angleOver_b0 {p : Program} {l : Launch} {e : Env} {s : State} {m : MethodId} {args : Array Value} {below : List Frame} {meth : Method} {c : Code} {G : Gw} {x0 : Nat} {x1 : Int32} {x2 : Int32} {x3 : Int32} {x4 : Int32} {x5 : Int32} {Φ : Hp → Int64 → Prop} (C0 : Mx p s m c cX8_angleOver 6 args yX8_angleOver.cls G) (Y : My meth (some .long))  : ∀ (S : Hp) (H : Heap) (locs : List Loc) (ls : Array Slot), wX8_angleOver_b0 x0 x1 x2 x3 x4 x5 Φ S → Ok G S H → va_S (Ab G.b) s.heap H locs → lv_has ls 6 [(0, .ref x0), (1, .int x1), (2, .int x2), (3, .int x3), (4, .int x4), (5, .int x5)] → W p l e rm_X8_angleOver s m args below meth c H locs 0 0 (MQ below (gQ G (PJ Φ)) args s rm_X8_angleOver.cells rm_X8_angleOver.slots (Ab G.b)) (F0 m 0 ls []) := by
  intro S H locs ls h hO hS hl
  unfold wX8_angleOver_b0 at h
  refine lv_aload_n C0.1 C0.2.1 dX8_angleOver_0 rfl (lv_at hl 0 rfl) ?_
  refine lv_iload_n C0.1 C0.2.1 dX8_angleOver_1 rfl (lv_at hl 1 rfl) ?_
  refine lv_iload_n C0.1 C0.2.1 dX8_angleOver_2 rfl (lv_at hl 2 rfl) ?_
  refine lv_iload_n C0.1 C0.2.1 dX8_angleOver_3 rfl (lv_at hl 3 rfl) ?_
  refine lv_iload C0.1 C0.2.1 dX8_angleOver_4 (lv_at hl 4 rfl) ?_
  refine lv_iload C0.1 C0.2.1 dX8_angleOver_6 (lv_at hl 5 rfl) ?_
  refine lv_iconst (v := 1) C0.1 C0.2.1 dX8_angleOver_8 (by decide) ?_
  obtain ⟨i3, h⟩ := h
  refine c_V C0 hO hS (mX8_angle h) i3 (by decide) rfl rfl tb_1744 tb_1746 tb_70 tb_81 tb_1747 hd_X8_angle rfl ⟨⟨by decide, by decide⟩, by decide, by decide⟩ hl.1 rfl (Nat.le_of_ble_eq_true rfl) dX8_angleOver_9 (kJ (fun r2 S1 H locs h hO hS => ?_))
  exact e_J C0 Y hO hS h (Nat.le_refl _) (Nat.le_refl _) dX8_angleOver_12
def wX8_angleOver (S : Hp) (x0 : Nat) (x1 : Int32) (x2 : Int32) (x3 : Int32) (x4 : Int32) (x5 : Int32) (Φ : Hp → Int64 → Prop) : Prop := wX8_angleOver_b0 x0 x1 x2 x3 x4 x5 Φ S
set_option maxRecDepth 100000 in
theorem mX8_angleOver {l : Launch} {G : Gw} {S : Hp} {x0 : Nat} {x1 : Int32} {x2 : Int32} {x3 : Int32} {x4 : Int32} {x5 : Int32} {Φ : Hp → Int64 → Prop} (h : wX8_angleOver S x0 x1 x2 x3 x4 x5 Φ) : gM l yX8_angleOver cX8_angleOver 6 (some .long) rm_X8_angleOver [.ref x0, .int x1, .int x2, .int x3, .int x4, .int x5] G S (PJ Φ) := by
  unfold gM
  refine Met.ofW (cc := cX8_angleOver) (maxL := 6) (ret := (some .long)) (by decide) rfl ?_
  intro p e s m args below meth c s₁ B hml hv
  obtain ⟨rfl, hw⟩ := hv
  obtain ⟨C0, Y, hO⟩ := mx_of B hml hw
  have hS : va_S (Ab G.b) s.heap s.heap [] := va_S.rf
  have hl := lv_entry ([.ref x0, .int x1, .int x2, .int x3, .int x4, .int x5]) (n := 6) (Nat.le_of_ble_eq_true rfl)
  rw [lg_entry_eq]
  generalize (lg_sl ([.ref x0, .int x1, .int x2, .int x3, .int x4, .int x5]) ++ List.replicate (6 - (lg_sl ([.ref x0, .int x1, .int x2, .int x3, .int x4, .int x5])).length) Slot.unset).toArray = ls at hl ⊢
  have hl : lv_has ls 6 [(0, .ref x0), (1, .int x1), (2, .int x2), (3, .int x3), (4, .int x4), (5, .int x5)] := hl
  exact bX8_angleOver_b0 C0 Y S _ _ _ h hO hS hl

def rm_X8_angleUnder : Room := { frames := 5, cells := 0, slots := 0, locals := 120 }
def wX8_angleUnder_b0 (x0 : Nat) (x1 : Int32) (x2 : Int32) (x3 : Int32) (x4 : Int32) (x5 : Int32) (Φ : Hp → Int64 → Prop) (S : Hp) : Prop := isA S x0 8 ∧ wX8_angle S x0 x1 x2 x3 x4 x5 0 (fun S1 r2 => Φ S1 r2)
set_option maxHeartbeats 4000000 in
set_option maxRecDepth 100000 in
theorem bX8_angleUnder_b0 {p : Program} {l : Launch} {e : Env} {s : State} {m : MethodId} {args : Array Value} {below : List Frame} {meth : Method} {c : Code} {G : Gw} {x0 : Nat} {x1 : Int32} {x2 : Int32} {x3 : Int32} {x4 : Int32} {x5 : Int32} {Φ : Hp → Int64 → Prop} (C0 : Mx p s m c cX8_angleUnder 6 args yX8_angleUnder.cls G) (Y : My meth (some .long))  : ∀ (S : Hp) (H : Heap) (locs : List Loc) (ls : Array Slot), wX8_angleUnder_b0 x0 x1 x2 x3 x4 x5 Φ S → Ok G S H → va_S (Ab G.b) s.heap H locs → lv_has ls 6 [(0, .ref x0), (1, .int x1), (2, .int x2), (3, .int x3), (4, .int x4), (5, .int x5)] → W p l e rm_X8_angleUnder s m args below meth c H locs 0 0 (MQ below (gQ G (PJ Φ)) args s rm_X8_angleUnder.cells rm_X8_angleUnder.slots (Ab G.b)) (F0 m 0 ls []) := by
  intro S H locs ls h hO hS hl
  unfold wX8_angleUnder_b0 at h
  refine lv_aload_n C0.1 C0.2.1 dX8_angleUnder_0 rfl (lv_at hl 0 rfl) ?_
  refine lv_iload_n C0.1 C0.2.1 dX8_angleUnder_1 rfl (lv_at hl 1 rfl) ?_
  refine lv_iload_n C0.1 C0.2.1 dX8_angleUnder_2 rfl (lv_at hl 2 rfl) ?_
  refine lv_iload_n C0.1 C0.2.1 dX8_angleUnder_3 rfl (lv_at hl 3 rfl) ?_
  refine lv_iload C0.1 C0.2.1 dX8_angleUnder_4 (lv_at hl 4 rfl) ?_
  refine lv_iload C0.1 C0.2.1 dX8_angleUnder_6 (lv_at hl 5 rfl) ?_
  refine lv_iconst (v := 0) C0.1 C0.2.1 dX8_angleUnder_8 (by decide) ?_
  obtain ⟨i3, h⟩ := h
  refine c_V C0 hO hS (mX8_angle h) i3 (by decide) rfl rfl tb_1744 tb_1746 tb_70 tb_81 tb_1747 hd_X8_angle rfl ⟨⟨by decide, by decide⟩, by decide, by decide⟩ hl.1 rfl (Nat.le_of_ble_eq_true rfl) dX8_angleUnder_9 (kJ (fun r2 S1 H locs h hO hS => ?_))
  exact e_J C0 Y hO hS h (Nat.le_refl _) (Nat.le_refl _) dX8_angleUnder_12
def wX8_angleUnder (S : Hp) (x0 : Nat) (x1 : Int32) (x2 : Int32) (x3 : Int32) (x4 : Int32) (x5 : Int32) (Φ : Hp → Int64 → Prop) : Prop := wX8_angleUnder_b0 x0 x1 x2 x3 x4 x5 Φ S
set_option maxRecDepth 100000 in
theorem mX8_angleUnder {l : Launch} {G : Gw} {S : Hp} {x0 : Nat} {x1 : Int32} {x2 : Int32} {x3 : Int32} {x4 : Int32} {x5 : Int32} {Φ : Hp → Int64 → Prop} (h : wX8_angleUnder S x0 x1 x2 x3 x4 x5 Φ) : gM l yX8_angleUnder cX8_angleUnder 6 (some .long) rm_X8_angleUnder [.ref x0, .int x1, .int x2, .int x3, .int x4, .int x5] G S (PJ Φ) := by
  unfold gM
  refine Met.ofW (cc := cX8_angleUnder) (maxL := 6) (ret := (some .long)) (by decide) rfl ?_
  intro p e s m args below meth c s₁ B hml hv
  obtain ⟨rfl, hw⟩ := hv
  obtain ⟨C0, Y, hO⟩ := mx_of B hml hw
  have hS : va_S (Ab G.b) s.heap s.heap [] := va_S.rf
  have hl := lv_entry ([.ref x0, .int x1, .int x2, .int x3, .int x4, .int x5]) (n := 6) (Nat.le_of_ble_eq_true rfl)
  rw [lg_entry_eq]
  generalize (lg_sl ([.ref x0, .int x1, .int x2, .int x3, .int x4, .int x5]) ++ List.replicate (6 - (lg_sl ([.ref x0, .int x1, .int x2, .int x3, .int x4, .int x5])).length) Slot.unset).toArray = ls at hl ⊢
  have hl : lv_has ls 6 [(0, .ref x0), (1, .int x1), (2, .int x2), (3, .int x3), (4, .int x4), (5, .int x5)] := hl
  exact bX8_angleUnder_b0 C0 Y S _ _ _ h hO hS hl

def rm_X8_isNoRatio : Room := { frames := 1, cells := 0, slots := 0, locals := 22 }
def wX8_isNoRatio_b28 (x0 : Nat) (x1 : Int32) (x2 : Int32) (Φ : Hp → Int32 → Prop) (S : Hp) (z0 : Nat) (z1 : Int32) : Prop := isA S z0 8 ∧ wX8_isThrown S z0 z1 1 (fun S1 r2 => narrow .boolean (.int r2) = .int r2 ∧ Φ S1 r2)
set_option maxHeartbeats 4000000 in
set_option maxRecDepth 100000 in
theorem bX8_isNoRatio_b28 {p : Program} {l : Launch} {e : Env} {s : State} {m : MethodId} {args : Array Value} {below : List Frame} {meth : Method} {c : Code} {G : Gw} {x0 : Nat} {x1 : Int32} {x2 : Int32} {Φ : Hp → Int32 → Prop} (C0 : Mx p s m c cX8_isNoRatio 3 args yX8_isNoRatio.cls G) (Y : My meth (some .boolean))  : ∀ (S : Hp) (z0 : Nat) (z1 : Int32) (H : Heap) (locs : List Loc) (ls : Array Slot), wX8_isNoRatio_b28 x0 x1 x2 Φ S z0 z1 → Ok G S H → va_S (Ab G.b) s.heap H locs → lv_has ls 3 [(0, .ref x0), (1, .int x1), (2, .int x2)] → W p l e rm_X8_isNoRatio s m args below meth c H locs 0 0 (MQ below (gQ G (PI Φ)) args s rm_X8_isNoRatio.cells rm_X8_isNoRatio.slots (Ab G.b)) (F0 m 28 ls [.int z1, .ref z0]) := by
  intro S z0 z1 H locs ls h hO hS hl
  unfold wX8_isNoRatio_b28 at h
  refine lv_iconst (v := 1) C0.1 C0.2.1 dX8_isNoRatio_28 (by decide) ?_
  obtain ⟨i3, h⟩ := h
  refine c_V C0 hO hS (mX8_isThrown h) i3 (by decide) rfl rfl tb_1451 tb_1453 tb_37 tb_81 tb_1454 hd_X8_isThrown rfl ⟨⟨by decide, by decide⟩, by decide, by decide⟩ hl.1 rfl (Nat.le_of_ble_eq_true rfl) dX8_isNoRatio_29 (kI (fun r2 S1 H locs h hO hS => ?_))
  exact e_Z C0 Y hO hS h.1 h.2 (Nat.le_refl _) (Nat.le_refl _) dX8_isNoRatio_32
def wX8_isNoRatio_b23 (x0 : Nat) (x1 : Int32) (x2 : Int32) (Φ : Hp → Int32 → Prop) (S : Hp) (z0 : Nat) : Prop := wX8_isNoRatio_b28 x0 x1 x2 Φ S z0 1
set_option maxHeartbeats 4000000 in
set_option maxRecDepth 100000 in
theorem bX8_isNoRatio_b23 {p : Program} {l : Launch} {e : Env} {s : State} {m : MethodId} {args : Array Value} {below : List Frame} {meth : Method} {c : Code} {G : Gw} {x0 : Nat} {x1 : Int32} {x2 : Int32} {Φ : Hp → Int32 → Prop} (C0 : Mx p s m c cX8_isNoRatio 3 args yX8_isNoRatio.cls G) (Y : My meth (some .boolean))  : ∀ (S : Hp) (z0 : Nat) (H : Heap) (locs : List Loc) (ls : Array Slot), wX8_isNoRatio_b23 x0 x1 x2 Φ S z0 → Ok G S H → va_S (Ab G.b) s.heap H locs → lv_has ls 3 [(0, .ref x0), (1, .int x1), (2, .int x2)] → W p l e rm_X8_isNoRatio s m args below meth c H locs 0 0 (MQ below (gQ G (PI Φ)) args s rm_X8_isNoRatio.cells rm_X8_isNoRatio.slots (Ab G.b)) (F0 m 23 ls [.ref z0]) := by
  intro S z0 H locs ls h hO hS hl
  unfold wX8_isNoRatio_b23 at h
  refine lv_iconst (v := 1) C0.1 C0.2.1 dX8_isNoRatio_23 (by decide) ?_
  refine lv_goto (tgt := 28) C0.1 C0.2.1 dX8_isNoRatio_24 (by decide) ?_
  exact bX8_isNoRatio_b28 C0 Y _ _ _ _ _ _ h hO hS (lv_sub hl [0, 1, 2] rfl)
def wX8_isNoRatio_b0 (x0 : Nat) (x1 : Int32) (x2 : Int32) (Φ : Hp → Int32 → Prop) (S : Hp) : Prop := wX8_isIn S x1 1 9999 (fun S1 r2 => ((r2 = 0 → wX8_isNoRatio_b23 x0 x1 x2 Φ S1 x0) ∧ (¬ (r2 = 0) → wX8_isIn S1 x2 1 9999 (fun S4 r5 => ((¬ r5 = 0 → wX8_isNoRatio_b28 x0 x1 x2 Φ S4 x0 0) ∧ (r5 = 0 → wX8_isNoRatio_b23 x0 x1 x2 Φ S4 x0))))))
set_option maxHeartbeats 4000000 in
set_option maxRecDepth 100000 in
theorem bX8_isNoRatio_b0 {p : Program} {l : Launch} {e : Env} {s : State} {m : MethodId} {args : Array Value} {below : List Frame} {meth : Method} {c : Code} {G : Gw} {x0 : Nat} {x1 : Int32} {x2 : Int32} {Φ : Hp → Int32 → Prop} (C0 : Mx p s m c cX8_isNoRatio 3 args yX8_isNoRatio.cls G) (Y : My meth (some .boolean))  : ∀ (S : Hp) (H : Heap) (locs : List Loc) (ls : Array Slot), wX8_isNoRatio_b0 x0 x1 x2 Φ S → Ok G S H → va_S (Ab G.b) s.heap H locs → lv_has ls 3 [(0, .ref x0), (1, .int x1), (2, .int x2)] → W p l e rm_X8_isNoRatio s m args below meth c H locs 0 0 (MQ below (gQ G (PI Φ)) args s rm_X8_isNoRatio.cells rm_X8_isNoRatio.slots (Ab G.b)) (F0 m 0 ls []) := by
  intro S H locs ls h hO hS hl
  unfold wX8_isNoRatio_b0 at h
  refine lv_aload_n C0.1 C0.2.1 dX8_isNoRatio_0 rfl (lv_at hl 0 rfl) ?_
  refine lv_iload_n C0.1 C0.2.1 dX8_isNoRatio_1 rfl (lv_at hl 1 rfl) ?_
  refine lv_iconst (v := 1) C0.1 C0.2.1 dX8_isNoRatio_2 (by decide) ?_
  refine lv_sipush (v := 9999) C0.1 C0.2.1 dX8_isNoRatio_3 (by decide) ?_
  refine c_S C0 hO hS (mX8_isIn h) tb_1463 tb_1464 tb_81 tb_1465 hd_X8_isIn rfl ⟨⟨by decide, by decide⟩, by decide, by decide⟩ hl.1 rfl (Nat.le_of_ble_eq_true rfl) dX8_isNoRatio_6 (kI (fun r2 S1 H locs h hO hS => ?_))
  refine lv_if_eq (tgt := 23) C0.1 C0.2.1 dX8_isNoRatio_9 (by decide) (fun c3 => ?_) (fun c3 => ?_)
  · have h := h.1 c3
    exact bX8_isNoRatio_b23 C0 Y _ _ _ _ _ h hO hS (lv_sub hl [0, 1, 2] rfl)
  · have h := h.2 c3
    refine lv_iload_n C0.1 C0.2.1 dX8_isNoRatio_12 rfl (lv_at hl 2 rfl) ?_
    refine lv_iconst (v := 1) C0.1 C0.2.1 dX8_isNoRatio_13 (by decide) ?_
    refine lv_sipush (v := 9999) C0.1 C0.2.1 dX8_isNoRatio_14 (by decide) ?_
    refine c_S C0 hO hS (mX8_isIn h) tb_1463 tb_1464 tb_81 tb_1465 hd_X8_isIn rfl ⟨⟨by decide, by decide⟩, by decide, by decide⟩ hl.1 rfl (Nat.le_of_ble_eq_true rfl) dX8_isNoRatio_17 (kI (fun r5 S4 H locs h hO hS => ?_))
    refine lv_if_ne (tgt := 27) C0.1 C0.2.1 dX8_isNoRatio_20 (by decide) (fun c6 => ?_) (fun c6 => ?_)
    · have h := h.1 c6
      refine lv_iconst (v := 0) C0.1 C0.2.1 dX8_isNoRatio_27 (by decide) ?_
      exact bX8_isNoRatio_b28 C0 Y _ _ _ _ _ _ h hO hS (lv_sub hl [0, 1, 2] rfl)
    · have h := h.2 c6
      exact bX8_isNoRatio_b23 C0 Y _ _ _ _ _ h hO hS (lv_sub hl [0, 1, 2] rfl)
def wX8_isNoRatio (S : Hp) (x0 : Nat) (x1 : Int32) (x2 : Int32) (Φ : Hp → Int32 → Prop) : Prop := wX8_isNoRatio_b0 x0 x1 x2 Φ S
set_option maxRecDepth 100000 in
theorem mX8_isNoRatio {l : Launch} {G : Gw} {S : Hp} {x0 : Nat} {x1 : Int32} {x2 : Int32} {Φ : Hp → Int32 → Prop} (h : wX8_isNoRatio S x0 x1 x2 Φ) : gM l yX8_isNoRatio cX8_isNoRatio 3 (some .boolean) rm_X8_isNoRatio [.ref x0, .int x1, .int x2] G S (PI Φ) := by
  unfold gM
  refine Met.ofW (cc := cX8_isNoRatio) (maxL := 3) (ret := (some .boolean)) (by decide) rfl ?_
  intro p e s m args below meth c s₁ B hml hv
  obtain ⟨rfl, hw⟩ := hv
  obtain ⟨C0, Y, hO⟩ := mx_of B hml hw
  have hS : va_S (Ab G.b) s.heap s.heap [] := va_S.rf
  have hl := lv_entry ([.ref x0, .int x1, .int x2]) (n := 3) (Nat.le_of_ble_eq_true rfl)
  rw [lg_entry_eq]
  generalize (lg_sl ([.ref x0, .int x1, .int x2]) ++ List.replicate (3 - (lg_sl ([.ref x0, .int x1, .int x2])).length) Slot.unset).toArray = ls at hl ⊢
  have hl : lv_has ls 3 [(0, .ref x0), (1, .int x1), (2, .int x2)] := hl
  exact bX8_isNoRatio_b0 C0 Y S _ _ _ h hO hS hl

def rm_X8_teeth : Room := { frames := 2, cells := 0, slots := 0, locals := 44 }
def wX8_teeth_b123 (x0 : Nat) (x1 : Int32) (x2 : Int32) (x3 : Int32) (Φ : Hp → Int32 → Prop) (k21 : Hp → Int32 → Int32 → Int32 → Prop) (k32 : Hp → Int32 → Int32 → Int32 → Int32 → Prop) (S : Hp) (v4 : Int32) (v5 : Int32) (v6 : Int32) (v7 : Int32) : Prop := k32 S v4 v5 v6 (v7 + 1)
set_option maxHeartbeats 4000000 in
set_option maxRecDepth 100000 in
theorem bX8_teeth_b123 {p : Program} {l : Launch} {e : Env} {s : State} {m : MethodId} {args : Array Value} {below : List Frame} {meth : Method} {c : Code} {G : Gw} {x0 : Nat} {x1 : Int32} {x2 : Int32} {x3 : Int32} {Φ : Hp → Int32 → Prop} (C0 : Mx p s m c cX8_teeth 13 args yX8_teeth.cls G) (Y : My meth (some .int)) {k21 : Hp → Int32 → Int32 → Int32 → Prop} (hk21 : ∀ (S : Hp) (v4 : Int32) (v5 : Int32) (v6 : Int32) (H : Heap) (locs : List Loc) (ls : Array Slot), k21 S v4 v5 v6 → Ok G S H → va_S (Ab G.b) s.heap H locs → lv_has ls 13 [(0, .ref x0), (1, .int x1), (2, .int x2), (3, .int x3), (4, .int v4), (5, .int v5), (6, .int v6)] → W p l e rm_X8_teeth s m args below meth c H locs 0 0 (MQ below (gQ G (PI Φ)) args s rm_X8_teeth.cells rm_X8_teeth.slots (Ab G.b)) (F0 m 21 ls [])) {k32 : Hp → Int32 → Int32 → Int32 → Int32 → Prop} (hk32 : ∀ (S : Hp) (v4 : Int32) (v5 : Int32) (v6 : Int32) (v7 : Int32) (H : Heap) (locs : List Loc) (ls : Array Slot), k32 S v4 v5 v6 v7 → Ok G S H → va_S (Ab G.b) s.heap H locs → lv_has ls 13 [(0, .ref x0), (1, .int x1), (2, .int x2), (3, .int x3), (4, .int v4), (5, .int v5), (6, .int v6), (7, .int v7)] → W p l e rm_X8_teeth s m args below meth c H locs 0 0 (MQ below (gQ G (PI Φ)) args s rm_X8_teeth.cells rm_X8_teeth.slots (Ab G.b)) (F0 m 32 ls [])) : ∀ (S : Hp) (v4 : Int32) (v5 : Int32) (v6 : Int32) (v7 : Int32) (H : Heap) (locs : List Loc) (ls : Array Slot), wX8_teeth_b123 x0 x1 x2 x3 Φ k21 k32 S v4 v5 v6 v7 → Ok G S H → va_S (Ab G.b) s.heap H locs → lv_has ls 13 [(0, .ref x0), (1, .int x1), (2, .int x2), (3, .int x3), (4, .int v4), (5, .int v5), (6, .int v6), (7, .int v7)] → W p l e rm_X8_teeth s m args below meth c H locs 0 0 (MQ below (gQ G (PI Φ)) args s rm_X8_teeth.cells rm_X8_teeth.slots (Ab G.b)) (F0 m 123 ls []) := by
  intro S v4 v5 v6 v7 H locs ls h hO hS hl
  unfold wX8_teeth_b123 at h
  refine lv_iinc (v := _ + 1) C0.1 C0.2.1 dX8_teeth_123 hl (k := 7) rfl rfl (by decide) rfl (fun ls hl => ?_)
  refine lv_goto (tgt := 32) C0.1 C0.2.1 dX8_teeth_126 (by decide) ?_
  exact hk32 _ _ _ _ _ _ _ _ h hO hS (lv_sub hl [1, 2, 3, 4, 5, 6, 7, 0] rfl)
def wX8_teeth_b115 (x0 : Nat) (x1 : Int32) (x2 : Int32) (x3 : Int32) (Φ : Hp → Int32 → Prop) (k21 : Hp → Int32 → Int32 → Int32 → Prop) (k32 : Hp → Int32 → Int32 → Int32 → Int32 → Prop) (S : Hp) (v6 : Int32) (v7 : Int32) (v8 : Int32) : Prop := wX8_teeth_b123 x0 x1 x2 x3 Φ k21 k32 S v7 v8 v6 v7
set_option maxHeartbeats 4000000 in
set_option maxRecDepth 100000 in
theorem bX8_teeth_b115 {p : Program} {l : Launch} {e : Env} {s : State} {m : MethodId} {args : Array Value} {below : List Frame} {meth : Method} {c : Code} {G : Gw} {x0 : Nat} {x1 : Int32} {x2 : Int32} {x3 : Int32} {Φ : Hp → Int32 → Prop} (C0 : Mx p s m c cX8_teeth 13 args yX8_teeth.cls G) (Y : My meth (some .int)) {k21 : Hp → Int32 → Int32 → Int32 → Prop} (hk21 : ∀ (S : Hp) (v4 : Int32) (v5 : Int32) (v6 : Int32) (H : Heap) (locs : List Loc) (ls : Array Slot), k21 S v4 v5 v6 → Ok G S H → va_S (Ab G.b) s.heap H locs → lv_has ls 13 [(0, .ref x0), (1, .int x1), (2, .int x2), (3, .int x3), (4, .int v4), (5, .int v5), (6, .int v6)] → W p l e rm_X8_teeth s m args below meth c H locs 0 0 (MQ below (gQ G (PI Φ)) args s rm_X8_teeth.cells rm_X8_teeth.slots (Ab G.b)) (F0 m 21 ls [])) {k32 : Hp → Int32 → Int32 → Int32 → Int32 → Prop} (hk32 : ∀ (S : Hp) (v4 : Int32) (v5 : Int32) (v6 : Int32) (v7 : Int32) (H : Heap) (locs : List Loc) (ls : Array Slot), k32 S v4 v5 v6 v7 → Ok G S H → va_S (Ab G.b) s.heap H locs → lv_has ls 13 [(0, .ref x0), (1, .int x1), (2, .int x2), (3, .int x3), (4, .int v4), (5, .int v5), (6, .int v6), (7, .int v7)] → W p l e rm_X8_teeth s m args below meth c H locs 0 0 (MQ below (gQ G (PI Φ)) args s rm_X8_teeth.cells rm_X8_teeth.slots (Ab G.b)) (F0 m 32 ls [])) : ∀ (S : Hp) (v6 : Int32) (v7 : Int32) (v8 : Int32) (H : Heap) (locs : List Loc) (ls : Array Slot), wX8_teeth_b115 x0 x1 x2 x3 Φ k21 k32 S v6 v7 v8 → Ok G S H → va_S (Ab G.b) s.heap H locs → lv_has ls 13 [(0, .ref x0), (1, .int x1), (2, .int x2), (3, .int x3), (6, .int v6), (7, .int v7), (8, .int v8)] → W p l e rm_X8_teeth s m args below meth c H locs 0 0 (MQ below (gQ G (PI Φ)) args s rm_X8_teeth.cells rm_X8_teeth.slots (Ab G.b)) (F0 m 115 ls []) := by
  intro S v6 v7 v8 H locs ls h hO hS hl
  unfold wX8_teeth_b115 at h
  refine lv_iload C0.1 C0.2.1 dX8_teeth_115 (lv_at hl 5 rfl) ?_
  refine lv_istore C0.1 C0.2.1 dX8_teeth_117 hl (by decide) rfl (fun ls hl => ?_)
  refine lv_iload C0.1 C0.2.1 dX8_teeth_119 (lv_at hl 7 rfl) ?_
  refine lv_istore C0.1 C0.2.1 dX8_teeth_121 hl (by decide) rfl (fun ls hl => ?_)
  exact bX8_teeth_b123 C0 Y hk21 hk32 _ _ _ _ _ _ _ _ h hO hS (lv_sub hl [2, 3, 4, 5, 1, 0, 6, 7] rfl)
def wX8_teeth_b32 (x0 : Nat) (x1 : Int32) (x2 : Int32) (x3 : Int32) (Φ : Hp → Int32 → Prop) (k21 : Hp → Int32 → Int32 → Int32 → Prop) (k32 : Hp → Int32 → Int32 → Int32 → Int32 → Prop) (S : Hp) (v4 : Int32) (v5 : Int32) (v6 : Int32) (v7 : Int32) : Prop := ((30 < v7 → k21 S v4 v5 (v6 + 1)) ∧ (¬ (30 < v7) → wX8_isIn S (v6 - v7) 6 30 (fun S2 r3 => ((r3 = 0 → wX8_teeth_b123 x0 x1 x2 x3 Φ k21 k32 S2 v4 v5 v6 v7) ∧ (¬ (r3 = 0) → ((v4 = 0 → wX8_teeth_b115 x0 x1 x2 x3 Φ k21 k32 S2 v6 v7 (v6 - v7)) ∧ (¬ (v4 = 0) → ((0 ≤ (lg_cmp ((if 0 < ((v7.toInt64 * x2.toInt64) - (((v6 - v7).toInt64) * x1.toInt64)) then ((v7.toInt64 * x2.toInt64) - (((v6 - v7).toInt64) * x1.toInt64)) else -((v7.toInt64 * x2.toInt64) - (((v6 - v7).toInt64) * x1.toInt64))) * v5.toInt64) ((if 0 < ((v4.toInt64 * x2.toInt64) - (v5.toInt64 * x1.toInt64)) then ((v4.toInt64 * x2.toInt64) - (v5.toInt64 * x1.toInt64)) else -((v4.toInt64 * x2.toInt64) - (v5.toInt64 * x1.toInt64))) * ((v6 - v7).toInt64))) → wX8_teeth_b123 x0 x1 x2 x3 Φ k21 k32 S2 v4 v5 v6 v7) ∧ (¬ (0 ≤ (lg_cmp ((if 0 < ((v7.toInt64 * x2.toInt64) - (((v6 - v7).toInt64) * x1.toInt64)) then ((v7.toInt64 * x2.toInt64) - (((v6 - v7).toInt64) * x1.toInt64)) else -((v7.toInt64 * x2.toInt64) - (((v6 - v7).toInt64) * x1.toInt64))) * v5.toInt64) ((if 0 < ((v4.toInt64 * x2.toInt64) - (v5.toInt64 * x1.toInt64)) then ((v4.toInt64 * x2.toInt64) - (v5.toInt64 * x1.toInt64)) else -((v4.toInt64 * x2.toInt64) - (v5.toInt64 * x1.toInt64))) * ((v6 - v7).toInt64)))) → wX8_teeth_b115 x0 x1 x2 x3 Φ k21 k32 S2 v6 v7 (v6 - v7))))))))))
set_option maxHeartbeats 4000000 in
set_option maxRecDepth 100000 in
theorem bX8_teeth_b32 {p : Program} {l : Launch} {e : Env} {s : State} {m : MethodId} {args : Array Value} {below : List Frame} {meth : Method} {c : Code} {G : Gw} {x0 : Nat} {x1 : Int32} {x2 : Int32} {x3 : Int32} {Φ : Hp → Int32 → Prop} (C0 : Mx p s m c cX8_teeth 13 args yX8_teeth.cls G) (Y : My meth (some .int)) {k21 : Hp → Int32 → Int32 → Int32 → Prop} (hk21 : ∀ (S : Hp) (v4 : Int32) (v5 : Int32) (v6 : Int32) (H : Heap) (locs : List Loc) (ls : Array Slot), k21 S v4 v5 v6 → Ok G S H → va_S (Ab G.b) s.heap H locs → lv_has ls 13 [(0, .ref x0), (1, .int x1), (2, .int x2), (3, .int x3), (4, .int v4), (5, .int v5), (6, .int v6)] → W p l e rm_X8_teeth s m args below meth c H locs 0 0 (MQ below (gQ G (PI Φ)) args s rm_X8_teeth.cells rm_X8_teeth.slots (Ab G.b)) (F0 m 21 ls [])) {k32 : Hp → Int32 → Int32 → Int32 → Int32 → Prop} (hk32 : ∀ (S : Hp) (v4 : Int32) (v5 : Int32) (v6 : Int32) (v7 : Int32) (H : Heap) (locs : List Loc) (ls : Array Slot), k32 S v4 v5 v6 v7 → Ok G S H → va_S (Ab G.b) s.heap H locs → lv_has ls 13 [(0, .ref x0), (1, .int x1), (2, .int x2), (3, .int x3), (4, .int v4), (5, .int v5), (6, .int v6), (7, .int v7)] → W p l e rm_X8_teeth s m args below meth c H locs 0 0 (MQ below (gQ G (PI Φ)) args s rm_X8_teeth.cells rm_X8_teeth.slots (Ab G.b)) (F0 m 32 ls [])) : ∀ (S : Hp) (v4 : Int32) (v5 : Int32) (v6 : Int32) (v7 : Int32) (H : Heap) (locs : List Loc) (ls : Array Slot), wX8_teeth_b32 x0 x1 x2 x3 Φ k21 k32 S v4 v5 v6 v7 → Ok G S H → va_S (Ab G.b) s.heap H locs → lv_has ls 13 [(0, .ref x0), (1, .int x1), (2, .int x2), (3, .int x3), (4, .int v4), (5, .int v5), (6, .int v6), (7, .int v7)] → W p l e rm_X8_teeth s m args below meth c H locs 0 0 (MQ below (gQ G (PI Φ)) args s rm_X8_teeth.cells rm_X8_teeth.slots (Ab G.b)) (F0 m 32 ls []) := by
  intro S v4 v5 v6 v7 H locs ls h hO hS hl
  unfold wX8_teeth_b32 at h
  refine lv_iload C0.1 C0.2.1 dX8_teeth_32 (lv_at hl 7 rfl) ?_
  refine lv_bipush (v := 30) C0.1 C0.2.1 dX8_teeth_34 (by decide) ?_
  refine lv_icmp_gt (tgt := 129) C0.1 C0.2.1 dX8_teeth_36 (by decide) (fun c1 => ?_) (fun c1 => ?_)
  · have h := h.1 c1
    refine lv_iinc (v := _ + 1) C0.1 C0.2.1 dX8_teeth_129 hl (k := 6) rfl rfl (by decide) rfl (fun ls hl => ?_)
    refine lv_goto (tgt := 21) C0.1 C0.2.1 dX8_teeth_132 (by decide) ?_
    exact hk21 _ _ _ _ _ _ _ h hO hS (lv_sub hl [1, 2, 3, 4, 5, 6, 0] rfl)
  · have h := h.2 c1
    refine lv_iload C0.1 C0.2.1 dX8_teeth_39 (lv_at hl 6 rfl) ?_
    refine lv_iload C0.1 C0.2.1 dX8_teeth_41 (lv_at hl 7 rfl) ?_
    refine lv_isub C0.1 C0.2.1 dX8_teeth_43 ?_
    refine lv_istore C0.1 C0.2.1 dX8_teeth_44 hl (by decide) rfl (fun ls hl => ?_)
    refine lv_iload C0.1 C0.2.1 dX8_teeth_46 (lv_at hl 0 rfl) ?_
    refine lv_bipush (v := 6) C0.1 C0.2.1 dX8_teeth_48 (by decide) ?_
    refine lv_bipush (v := 30) C0.1 C0.2.1 dX8_teeth_50 (by decide) ?_
    refine c_S C0 hO hS (mX8_isIn h) tb_1463 tb_1464 tb_81 tb_1465 hd_X8_isIn rfl ⟨⟨by decide, by decide⟩, by decide, by decide⟩ hl.1 rfl (Nat.le_of_ble_eq_true rfl) dX8_teeth_52 (kI (fun r3 S2 H locs h hO hS => ?_))
    refine lv_if_eq (tgt := 123) C0.1 C0.2.1 dX8_teeth_55 (by decide) (fun c4 => ?_) (fun c4 => ?_)
    · have h := h.1 c4
      exact bX8_teeth_b123 C0 Y hk21 hk32 _ _ _ _ _ _ _ _ h hO hS (lv_sub hl [1, 2, 3, 4, 5, 6, 7, 8] rfl)
    · have h := h.2 c4
      refine lv_iload C0.1 C0.2.1 dX8_teeth_58 (lv_at hl 8 rfl) ?_
      refine lv_i2l C0.1 C0.2.1 dX8_teeth_60 rfl ?_
      refine lv_iload_n C0.1 C0.2.1 dX8_teeth_61 rfl (lv_at hl 3 rfl) ?_
      refine lv_i2l C0.1 C0.2.1 dX8_teeth_62 rfl ?_
      refine lv_lmul C0.1 C0.2.1 dX8_teeth_63 ?_
      refine lv_iload C0.1 C0.2.1 dX8_teeth_64 (lv_at hl 0 rfl) ?_
      refine lv_i2l C0.1 C0.2.1 dX8_teeth_66 rfl ?_
      refine lv_iload_n C0.1 C0.2.1 dX8_teeth_67 rfl (lv_at hl 2 rfl) ?_
      refine lv_i2l C0.1 C0.2.1 dX8_teeth_68 rfl ?_
      refine lv_lmul C0.1 C0.2.1 dX8_teeth_69 ?_
      refine lv_lsub C0.1 C0.2.1 dX8_teeth_70 ?_
      refine va_mabs_long C0.1 C0.2.1 (C0.2.2.1.trans hl.1.symm) C0.2.2.2.1 (C0.2.2.2.2.1 _ tb_1539) (C0.2.2.2.2.1 _ tb_817) (C0.2.2.2.2.1 _ tb_94) (C0.2.2.2.2.1 _ tb_818) (Nat.le_of_ble_eq_true rfl) (Nat.le_of_ble_eq_true rfl) (by decide) (by decide) dX8_teeth_71 ?_
      refine lv_lstore C0.1 C0.2.1 dX8_teeth_74 hl (by decide) rfl (fun ls hl => ?_)
      refine lv_iload C0.1 C0.2.1 dX8_teeth_76 (lv_at hl 6 rfl) ?_
      refine lv_i2l C0.1 C0.2.1 dX8_teeth_78 rfl ?_
      refine lv_iload_n C0.1 C0.2.1 dX8_teeth_79 rfl (lv_at hl 4 rfl) ?_
      refine lv_i2l C0.1 C0.2.1 dX8_teeth_80 rfl ?_
      refine lv_lmul C0.1 C0.2.1 dX8_teeth_81 ?_
      refine lv_iload C0.1 C0.2.1 dX8_teeth_82 (lv_at hl 7 rfl) ?_
      refine lv_i2l C0.1 C0.2.1 dX8_teeth_84 rfl ?_
      refine lv_iload_n C0.1 C0.2.1 dX8_teeth_85 rfl (lv_at hl 3 rfl) ?_
      refine lv_i2l C0.1 C0.2.1 dX8_teeth_86 rfl ?_
      refine lv_lmul C0.1 C0.2.1 dX8_teeth_87 ?_
      refine lv_lsub C0.1 C0.2.1 dX8_teeth_88 ?_
      refine va_mabs_long C0.1 C0.2.1 (C0.2.2.1.trans hl.1.symm) C0.2.2.2.1 (C0.2.2.2.2.1 _ tb_1539) (C0.2.2.2.2.1 _ tb_817) (C0.2.2.2.2.1 _ tb_94) (C0.2.2.2.2.1 _ tb_818) (Nat.le_of_ble_eq_true rfl) (Nat.le_of_ble_eq_true rfl) (by decide) (by decide) dX8_teeth_89 ?_
      refine lv_lstore C0.1 C0.2.1 dX8_teeth_92 hl (by decide) rfl (fun ls hl => ?_)
      refine lv_iload C0.1 C0.2.1 dX8_teeth_94 (lv_at hl 7 rfl) ?_
      refine lv_if_eq (tgt := 115) C0.1 C0.2.1 dX8_teeth_96 (by decide) (fun c5 => ?_) (fun c5 => ?_)
      · have h := h.1 c5
        exact bX8_teeth_b115 C0 Y hk21 hk32 _ _ _ _ _ _ _ h hO hS (lv_sub hl [3, 4, 5, 6, 9, 10, 2] rfl)
      · have h := h.2 c5
        refine lv_lload C0.1 C0.2.1 dX8_teeth_99 (lv_at hl 1 rfl) ?_
        refine lv_iload C0.1 C0.2.1 dX8_teeth_101 (lv_at hl 8 rfl) ?_
        refine lv_i2l C0.1 C0.2.1 dX8_teeth_103 rfl ?_
        refine lv_lmul C0.1 C0.2.1 dX8_teeth_104 ?_
        refine lv_lload C0.1 C0.2.1 dX8_teeth_105 (lv_at hl 0 rfl) ?_
        refine lv_iload C0.1 C0.2.1 dX8_teeth_107 (lv_at hl 2 rfl) ?_
        refine lv_i2l C0.1 C0.2.1 dX8_teeth_109 rfl ?_
        refine lv_lmul C0.1 C0.2.1 dX8_teeth_110 ?_
        refine W.lcmp C0.1 C0.2.1 dX8_teeth_111 ?_
        refine lv_if_ge (tgt := 123) C0.1 C0.2.1 dX8_teeth_112 (by decide) (fun c6 => ?_) (fun c6 => ?_)
        · have h := h.1 c6
          exact bX8_teeth_b123 C0 Y hk21 hk32 _ _ _ _ _ _ _ _ h hO hS (lv_sub hl [3, 4, 5, 6, 7, 8, 9, 10] rfl)
        · have h := h.2 c6
          exact bX8_teeth_b115 C0 Y hk21 hk32 _ _ _ _ _ _ _ h hO hS (lv_sub hl [3, 4, 5, 6, 9, 10, 2] rfl)
set_option maxHeartbeats 4000000 in
set_option maxRecDepth 100000 in
theorem lX8_teeth_b32 {p : Program} {l : Launch} {e : Env} {s : State} {m : MethodId} {args : Array Value} {below : List Frame} {meth : Method} {c : Code} {G : Gw} {x0 : Nat} {x1 : Int32} {x2 : Int32} {x3 : Int32} {Φ : Hp → Int32 → Prop} (C0 : Mx p s m c cX8_teeth 13 args yX8_teeth.cls G) (Y : My meth (some .int)) {k21 : Hp → Int32 → Int32 → Int32 → Prop} (hk21 : ∀ (S : Hp) (v4 : Int32) (v5 : Int32) (v6 : Int32) (H : Heap) (locs : List Loc) (ls : Array Slot), k21 S v4 v5 v6 → Ok G S H → va_S (Ab G.b) s.heap H locs → lv_has ls 13 [(0, .ref x0), (1, .int x1), (2, .int x2), (3, .int x3), (4, .int v4), (5, .int v5), (6, .int v6)] → W p l e rm_X8_teeth s m args below meth c H locs 0 0 (MQ below (gQ G (PI Φ)) args s rm_X8_teeth.cells rm_X8_teeth.slots (Ab G.b)) (F0 m 21 ls [])) : ∀ n9 : Nat, ∀ (S : Hp) (v4 : Int32) (v5 : Int32) (v6 : Int32) (v7 : Int32) (H : Heap) (locs : List Loc) (ls : Array Slot), it5 (wX8_teeth_b32 x0 x1 x2 x3 Φ k21) n9 S v4 v5 v6 v7 → Ok G S H → va_S (Ab G.b) s.heap H locs → lv_has ls 13 [(0, .ref x0), (1, .int x1), (2, .int x2), (3, .int x3), (4, .int v4), (5, .int v5), (6, .int v6), (7, .int v7)] → W p l e rm_X8_teeth s m args below meth c H locs 0 0 (MQ below (gQ G (PI Φ)) args s rm_X8_teeth.cells rm_X8_teeth.slots (Ab G.b)) (F0 m 32 ls []) := by
  intro n9
  induction n9 with
  | zero => intro S v4 v5 v6 v7 H locs ls h; exact (h : False).elim
  | succ n9 ih => intro S v4 v5 v6 v7 H locs ls h hO hS hl; exact bX8_teeth_b32 C0 Y hk21 ih S v4 v5 v6 v7 H locs ls h hO hS hl
def wX8_teeth_b21 (x0 : Nat) (x1 : Int32) (x2 : Int32) (x3 : Int32) (Φ : Hp → Int32 → Prop) (k21 : Hp → Int32 → Int32 → Int32 → Prop) (S : Hp) (v4 : Int32) (v5 : Int32) (v6 : Int32) : Prop := ((60 < v6 → ((x3 = 0 → Φ S v5) ∧ (¬ (x3 = 0) → Φ S v4))) ∧ (¬ (60 < v6) → ∃ n, it5 (wX8_teeth_b32 x0 x1 x2 x3 Φ k21) n S v4 v5 v6 6))
set_option maxHeartbeats 4000000 in
set_option maxRecDepth 100000 in
theorem bX8_teeth_b21 {p : Program} {l : Launch} {e : Env} {s : State} {m : MethodId} {args : Array Value} {below : List Frame} {meth : Method} {c : Code} {G : Gw} {x0 : Nat} {x1 : Int32} {x2 : Int32} {x3 : Int32} {Φ : Hp → Int32 → Prop} (C0 : Mx p s m c cX8_teeth 13 args yX8_teeth.cls G) (Y : My meth (some .int)) {k21 : Hp → Int32 → Int32 → Int32 → Prop} (hk21 : ∀ (S : Hp) (v4 : Int32) (v5 : Int32) (v6 : Int32) (H : Heap) (locs : List Loc) (ls : Array Slot), k21 S v4 v5 v6 → Ok G S H → va_S (Ab G.b) s.heap H locs → lv_has ls 13 [(0, .ref x0), (1, .int x1), (2, .int x2), (3, .int x3), (4, .int v4), (5, .int v5), (6, .int v6)] → W p l e rm_X8_teeth s m args below meth c H locs 0 0 (MQ below (gQ G (PI Φ)) args s rm_X8_teeth.cells rm_X8_teeth.slots (Ab G.b)) (F0 m 21 ls [])) : ∀ (S : Hp) (v4 : Int32) (v5 : Int32) (v6 : Int32) (H : Heap) (locs : List Loc) (ls : Array Slot), wX8_teeth_b21 x0 x1 x2 x3 Φ k21 S v4 v5 v6 → Ok G S H → va_S (Ab G.b) s.heap H locs → lv_has ls 13 [(0, .ref x0), (1, .int x1), (2, .int x2), (3, .int x3), (4, .int v4), (5, .int v5), (6, .int v6)] → W p l e rm_X8_teeth s m args below meth c H locs 0 0 (MQ below (gQ G (PI Φ)) args s rm_X8_teeth.cells rm_X8_teeth.slots (Ab G.b)) (F0 m 21 ls []) := by
  intro S v4 v5 v6 H locs ls h hO hS hl
  unfold wX8_teeth_b21 at h
  refine lv_iload C0.1 C0.2.1 dX8_teeth_21 (lv_at hl 6 rfl) ?_
  refine lv_bipush (v := 60) C0.1 C0.2.1 dX8_teeth_23 (by decide) ?_
  refine lv_icmp_gt (tgt := 135) C0.1 C0.2.1 dX8_teeth_25 (by decide) (fun c1 => ?_) (fun c1 => ?_)
  · have h := h.1 c1
    refine lv_iload_n C0.1 C0.2.1 dX8_teeth_135 rfl (lv_at hl 3 rfl) ?_
    refine lv_if_eq (tgt := 144) C0.1 C0.2.1 dX8_teeth_136 (by decide) (fun c2 => ?_) (fun c2 => ?_)
    · have h := h.1 c2
      refine lv_iload C0.1 C0.2.1 dX8_teeth_144 (lv_at hl 5 rfl) ?_
      exact e_I C0 Y hO hS h (Nat.le_refl _) (Nat.le_refl _) dX8_teeth_146
    · have h := h.2 c2
      refine lv_iload C0.1 C0.2.1 dX8_teeth_139 (lv_at hl 4 rfl) ?_
      refine lv_goto (tgt := 146) C0.1 C0.2.1 dX8_teeth_141 (by decide) ?_
      exact e_I C0 Y hO hS h (Nat.le_refl _) (Nat.le_refl _) dX8_teeth_146
  · have h := h.2 c1
    refine lv_bipush (v := 6) C0.1 C0.2.1 dX8_teeth_28 (by decide) ?_
    refine lv_istore C0.1 C0.2.1 dX8_teeth_30 hl (by decide) rfl (fun ls hl => ?_)
    obtain ⟨n9, h⟩ := h
    exact lX8_teeth_b32 C0 Y hk21 n9 _ _ _ _ _ _ _ _ h hO hS (lv_sub hl [1, 2, 3, 4, 5, 6, 7, 0] rfl)
set_option maxHeartbeats 4000000 in
set_option maxRecDepth 100000 in
theorem lX8_teeth_b21 {p : Program} {l : Launch} {e : Env} {s : State} {m : MethodId} {args : Array Value} {below : List Frame} {meth : Method} {c : Code} {G : Gw} {x0 : Nat} {x1 : Int32} {x2 : Int32} {x3 : Int32} {Φ : Hp → Int32 → Prop} (C0 : Mx p s m c cX8_teeth 13 args yX8_teeth.cls G) (Y : My meth (some .int))  : ∀ n9 : Nat, ∀ (S : Hp) (v4 : Int32) (v5 : Int32) (v6 : Int32) (H : Heap) (locs : List Loc) (ls : Array Slot), it4 (wX8_teeth_b21 x0 x1 x2 x3 Φ) n9 S v4 v5 v6 → Ok G S H → va_S (Ab G.b) s.heap H locs → lv_has ls 13 [(0, .ref x0), (1, .int x1), (2, .int x2), (3, .int x3), (4, .int v4), (5, .int v5), (6, .int v6)] → W p l e rm_X8_teeth s m args below meth c H locs 0 0 (MQ below (gQ G (PI Φ)) args s rm_X8_teeth.cells rm_X8_teeth.slots (Ab G.b)) (F0 m 21 ls []) := by
  intro n9
  induction n9 with
  | zero => intro S v4 v5 v6 H locs ls h; exact (h : False).elim
  | succ n9 ih => intro S v4 v5 v6 H locs ls h hO hS hl; exact bX8_teeth_b21 C0 Y ih S v4 v5 v6 H locs ls h hO hS hl
def wX8_teeth_b0 (x0 : Nat) (x1 : Int32) (x2 : Int32) (x3 : Int32) (Φ : Hp → Int32 → Prop) (S : Hp) : Prop := isA S x0 8 ∧ wX8_isNoRatio S x0 x1 x2 (fun S1 r2 => ((r2 = 0 → ∃ n, it4 (wX8_teeth_b21 x0 x1 x2 x3 Φ) n S1 0 0 12) ∧ (¬ (r2 = 0) → Φ S1 0)))
set_option maxHeartbeats 4000000 in
set_option maxRecDepth 100000 in
theorem bX8_teeth_b0 {p : Program} {l : Launch} {e : Env} {s : State} {m : MethodId} {args : Array Value} {below : List Frame} {meth : Method} {c : Code} {G : Gw} {x0 : Nat} {x1 : Int32} {x2 : Int32} {x3 : Int32} {Φ : Hp → Int32 → Prop} (C0 : Mx p s m c cX8_teeth 13 args yX8_teeth.cls G) (Y : My meth (some .int))  : ∀ (S : Hp) (H : Heap) (locs : List Loc) (ls : Array Slot), wX8_teeth_b0 x0 x1 x2 x3 Φ S → Ok G S H → va_S (Ab G.b) s.heap H locs → lv_has ls 13 [(0, .ref x0), (1, .int x1), (2, .int x2), (3, .int x3)] → W p l e rm_X8_teeth s m args below meth c H locs 0 0 (MQ below (gQ G (PI Φ)) args s rm_X8_teeth.cells rm_X8_teeth.slots (Ab G.b)) (F0 m 0 ls []) := by
  intro S H locs ls h hO hS hl
  unfold wX8_teeth_b0 at h
  refine lv_aload_n C0.1 C0.2.1 dX8_teeth_0 rfl (lv_at hl 0 rfl) ?_
  refine lv_iload_n C0.1 C0.2.1 dX8_teeth_1 rfl (lv_at hl 1 rfl) ?_
  refine lv_iload_n C0.1 C0.2.1 dX8_teeth_2 rfl (lv_at hl 2 rfl) ?_
  obtain ⟨i3, h⟩ := h
  refine c_V C0 hO hS (mX8_isNoRatio h) i3 (by decide) rfl rfl tb_1756 tb_1758 tb_71 tb_81 tb_1759 hd_X8_isNoRatio rfl ⟨⟨by decide, by decide⟩, by decide, by decide⟩ hl.1 rfl (Nat.le_of_ble_eq_true rfl) dX8_teeth_3 (kI (fun r2 S1 H locs h hO hS => ?_))
  refine lv_if_eq (tgt := 11) C0.1 C0.2.1 dX8_teeth_6 (by decide) (fun c4 => ?_) (fun c4 => ?_)
  · have h := h.1 c4
    refine lv_iconst (v := 0) C0.1 C0.2.1 dX8_teeth_11 (by decide) ?_
    refine lv_istore C0.1 C0.2.1 dX8_teeth_12 hl (by decide) rfl (fun ls hl => ?_)
    refine lv_iconst (v := 0) C0.1 C0.2.1 dX8_teeth_14 (by decide) ?_
    refine lv_istore C0.1 C0.2.1 dX8_teeth_15 hl (by decide) rfl (fun ls hl => ?_)
    refine lv_bipush (v := 12) C0.1 C0.2.1 dX8_teeth_17 (by decide) ?_
    refine lv_istore C0.1 C0.2.1 dX8_teeth_19 hl (by decide) rfl (fun ls hl => ?_)
    obtain ⟨n9, h⟩ := h
    exact lX8_teeth_b21 C0 Y n9 _ _ _ _ _ _ _ h hO hS (lv_sub hl [3, 4, 5, 6, 2, 1, 0] rfl)
  · have h := h.2 c4
    refine lv_iconst (v := 0) C0.1 C0.2.1 dX8_teeth_9 (by decide) ?_
    exact e_I C0 Y hO hS h (Nat.le_refl _) (Nat.le_refl _) dX8_teeth_10
def wX8_teeth (S : Hp) (x0 : Nat) (x1 : Int32) (x2 : Int32) (x3 : Int32) (Φ : Hp → Int32 → Prop) : Prop := wX8_teeth_b0 x0 x1 x2 x3 Φ S
set_option maxRecDepth 100000 in
theorem mX8_teeth {l : Launch} {G : Gw} {S : Hp} {x0 : Nat} {x1 : Int32} {x2 : Int32} {x3 : Int32} {Φ : Hp → Int32 → Prop} (h : wX8_teeth S x0 x1 x2 x3 Φ) : gM l yX8_teeth cX8_teeth 13 (some .int) rm_X8_teeth [.ref x0, .int x1, .int x2, .int x3] G S (PI Φ) := by
  unfold gM
  refine Met.ofW (cc := cX8_teeth) (maxL := 13) (ret := (some .int)) (by decide) rfl ?_
  intro p e s m args below meth c s₁ B hml hv
  obtain ⟨rfl, hw⟩ := hv
  obtain ⟨C0, Y, hO⟩ := mx_of B hml hw
  have hS : va_S (Ab G.b) s.heap s.heap [] := va_S.rf
  have hl := lv_entry ([.ref x0, .int x1, .int x2, .int x3]) (n := 13) (Nat.le_of_ble_eq_true rfl)
  rw [lg_entry_eq]
  generalize (lg_sl ([.ref x0, .int x1, .int x2, .int x3]) ++ List.replicate (13 - (lg_sl ([.ref x0, .int x1, .int x2, .int x3])).length) Slot.unset).toArray = ls at hl ⊢
  have hl : lv_has ls 13 [(0, .ref x0), (1, .int x1), (2, .int x2), (3, .int x3)] := hl
  exact bX8_teeth_b0 C0 Y S _ _ _ h hO hS hl

def rm_X8_pairs : Room := { frames := 2, cells := 0, slots := 0, locals := 44 }
def wX8_pairs_b52 (x0 : Nat) (x1 : Int32) (x2 : Int32) (Φ : Hp → Int32 → Prop) (k17 : Hp → Int32 → Int32 → Prop) (k28 : Hp → Int32 → Int32 → Int32 → Prop) (S : Hp) (v4 : Int32) (v5 : Int32) (z0 : Int32) (z1 : Int32) : Prop := k28 S (z0 + z1) v4 (v5 + 1)
set_option maxHeartbeats 4000000 in
set_option maxRecDepth 100000 in
theorem bX8_pairs_b52 {p : Program} {l : Launch} {e : Env} {s : State} {m : MethodId} {args : Array Value} {below : List Frame} {meth : Method} {c : Code} {G : Gw} {x0 : Nat} {x1 : Int32} {x2 : Int32} {Φ : Hp → Int32 → Prop} (C0 : Mx p s m c cX8_pairs 6 args yX8_pairs.cls G) (Y : My meth (some .int)) {k17 : Hp → Int32 → Int32 → Prop} (hk17 : ∀ (S : Hp) (v3 : Int32) (v4 : Int32) (H : Heap) (locs : List Loc) (ls : Array Slot), k17 S v3 v4 → Ok G S H → va_S (Ab G.b) s.heap H locs → lv_has ls 6 [(0, .ref x0), (1, .int x1), (2, .int x2), (3, .int v3), (4, .int v4)] → W p l e rm_X8_pairs s m args below meth c H locs 0 0 (MQ below (gQ G (PI Φ)) args s rm_X8_pairs.cells rm_X8_pairs.slots (Ab G.b)) (F0 m 17 ls [])) {k28 : Hp → Int32 → Int32 → Int32 → Prop} (hk28 : ∀ (S : Hp) (v3 : Int32) (v4 : Int32) (v5 : Int32) (H : Heap) (locs : List Loc) (ls : Array Slot), k28 S v3 v4 v5 → Ok G S H → va_S (Ab G.b) s.heap H locs → lv_has ls 6 [(0, .ref x0), (1, .int x1), (2, .int x2), (3, .int v3), (4, .int v4), (5, .int v5)] → W p l e rm_X8_pairs s m args below meth c H locs 0 0 (MQ below (gQ G (PI Φ)) args s rm_X8_pairs.cells rm_X8_pairs.slots (Ab G.b)) (F0 m 28 ls [])) : ∀ (S : Hp) (v4 : Int32) (v5 : Int32) (z0 : Int32) (z1 : Int32) (H : Heap) (locs : List Loc) (ls : Array Slot), wX8_pairs_b52 x0 x1 x2 Φ k17 k28 S v4 v5 z0 z1 → Ok G S H → va_S (Ab G.b) s.heap H locs → lv_has ls 6 [(0, .ref x0), (1, .int x1), (2, .int x2), (4, .int v4), (5, .int v5)] → W p l e rm_X8_pairs s m args below meth c H locs 0 0 (MQ below (gQ G (PI Φ)) args s rm_X8_pairs.cells rm_X8_pairs.slots (Ab G.b)) (F0 m 52 ls [.int z1, .int z0]) := by
  intro S v4 v5 z0 z1 H locs ls h hO hS hl
  unfold wX8_pairs_b52 at h
  refine lv_iadd C0.1 C0.2.1 dX8_pairs_52 ?_
  refine lv_istore_n C0.1 C0.2.1 dX8_pairs_53 rfl hl (by decide) rfl (fun ls hl => ?_)
  refine lv_iinc (v := _ + 1) C0.1 C0.2.1 dX8_pairs_54 hl (k := 5) rfl rfl (by decide) rfl (fun ls hl => ?_)
  refine lv_goto (tgt := 28) C0.1 C0.2.1 dX8_pairs_57 (by decide) ?_
  exact hk28 _ _ _ _ _ _ _ h hO hS (lv_sub hl [2, 3, 4, 1, 5, 0] rfl)
def wX8_pairs_b28 (x0 : Nat) (x1 : Int32) (x2 : Int32) (Φ : Hp → Int32 → Prop) (k17 : Hp → Int32 → Int32 → Prop) (k28 : Hp → Int32 → Int32 → Int32 → Prop) (S : Hp) (v3 : Int32) (v4 : Int32) (v5 : Int32) : Prop := ((30 < v5 → k17 S v3 (v4 + 1)) ∧ (¬ (30 < v5) → ((¬ (v4 * x2) = (v5 * x1) → wX8_pairs_b52 x0 x1 x2 Φ k17 k28 S v4 v5 v3 0) ∧ ((v4 * x2) = (v5 * x1) → wX8_pairs_b52 x0 x1 x2 Φ k17 k28 S v4 v5 v3 1))))
set_option maxHeartbeats 4000000 in
set_option maxRecDepth 100000 in
theorem bX8_pairs_b28 {p : Program} {l : Launch} {e : Env} {s : State} {m : MethodId} {args : Array Value} {below : List Frame} {meth : Method} {c : Code} {G : Gw} {x0 : Nat} {x1 : Int32} {x2 : Int32} {Φ : Hp → Int32 → Prop} (C0 : Mx p s m c cX8_pairs 6 args yX8_pairs.cls G) (Y : My meth (some .int)) {k17 : Hp → Int32 → Int32 → Prop} (hk17 : ∀ (S : Hp) (v3 : Int32) (v4 : Int32) (H : Heap) (locs : List Loc) (ls : Array Slot), k17 S v3 v4 → Ok G S H → va_S (Ab G.b) s.heap H locs → lv_has ls 6 [(0, .ref x0), (1, .int x1), (2, .int x2), (3, .int v3), (4, .int v4)] → W p l e rm_X8_pairs s m args below meth c H locs 0 0 (MQ below (gQ G (PI Φ)) args s rm_X8_pairs.cells rm_X8_pairs.slots (Ab G.b)) (F0 m 17 ls [])) {k28 : Hp → Int32 → Int32 → Int32 → Prop} (hk28 : ∀ (S : Hp) (v3 : Int32) (v4 : Int32) (v5 : Int32) (H : Heap) (locs : List Loc) (ls : Array Slot), k28 S v3 v4 v5 → Ok G S H → va_S (Ab G.b) s.heap H locs → lv_has ls 6 [(0, .ref x0), (1, .int x1), (2, .int x2), (3, .int v3), (4, .int v4), (5, .int v5)] → W p l e rm_X8_pairs s m args below meth c H locs 0 0 (MQ below (gQ G (PI Φ)) args s rm_X8_pairs.cells rm_X8_pairs.slots (Ab G.b)) (F0 m 28 ls [])) : ∀ (S : Hp) (v3 : Int32) (v4 : Int32) (v5 : Int32) (H : Heap) (locs : List Loc) (ls : Array Slot), wX8_pairs_b28 x0 x1 x2 Φ k17 k28 S v3 v4 v5 → Ok G S H → va_S (Ab G.b) s.heap H locs → lv_has ls 6 [(0, .ref x0), (1, .int x1), (2, .int x2), (3, .int v3), (4, .int v4), (5, .int v5)] → W p l e rm_X8_pairs s m args below meth c H locs 0 0 (MQ below (gQ G (PI Φ)) args s rm_X8_pairs.cells rm_X8_pairs.slots (Ab G.b)) (F0 m 28 ls []) := by
  intro S v3 v4 v5 H locs ls h hO hS hl
  unfold wX8_pairs_b28 at h
  refine lv_iload C0.1 C0.2.1 dX8_pairs_28 (lv_at hl 5 rfl) ?_
  refine lv_bipush (v := 30) C0.1 C0.2.1 dX8_pairs_30 (by decide) ?_
  refine lv_icmp_gt (tgt := 60) C0.1 C0.2.1 dX8_pairs_32 (by decide) (fun c1 => ?_) (fun c1 => ?_)
  · have h := h.1 c1
    refine lv_iinc (v := _ + 1) C0.1 C0.2.1 dX8_pairs_60 hl (k := 4) rfl rfl (by decide) rfl (fun ls hl => ?_)
    refine lv_goto (tgt := 17) C0.1 C0.2.1 dX8_pairs_63 (by decide) ?_
    exact hk17 _ _ _ _ _ _ h hO hS (lv_sub hl [1, 2, 3, 4, 0] rfl)
  · have h := h.2 c1
    refine lv_iload_n C0.1 C0.2.1 dX8_pairs_35 rfl (lv_at hl 3 rfl) ?_
    refine lv_iload C0.1 C0.2.1 dX8_pairs_36 (lv_at hl 4 rfl) ?_
    refine lv_iload_n C0.1 C0.2.1 dX8_pairs_38 rfl (lv_at hl 2 rfl) ?_
    refine lv_imul C0.1 C0.2.1 dX8_pairs_39 ?_
    refine lv_iload C0.1 C0.2.1 dX8_pairs_40 (lv_at hl 5 rfl) ?_
    refine lv_iload_n C0.1 C0.2.1 dX8_pairs_42 rfl (lv_at hl 1 rfl) ?_
    refine lv_imul C0.1 C0.2.1 dX8_pairs_43 ?_
    refine lv_icmp_ne (tgt := 51) C0.1 C0.2.1 dX8_pairs_44 (by decide) (fun c2 => ?_) (fun c2 => ?_)
    · have h := h.1 c2
      refine lv_iconst (v := 0) C0.1 C0.2.1 dX8_pairs_51 (by decide) ?_
      exact bX8_pairs_b52 C0 Y hk17 hk28 _ _ _ _ _ _ _ _ h hO hS (lv_sub hl [0, 1, 2, 4, 5] rfl)
    · have h := h.2 c2
      refine lv_iconst (v := 1) C0.1 C0.2.1 dX8_pairs_47 (by decide) ?_
      refine lv_goto (tgt := 52) C0.1 C0.2.1 dX8_pairs_48 (by decide) ?_
      exact bX8_pairs_b52 C0 Y hk17 hk28 _ _ _ _ _ _ _ _ h hO hS (lv_sub hl [0, 1, 2, 4, 5] rfl)
set_option maxHeartbeats 4000000 in
set_option maxRecDepth 100000 in
theorem lX8_pairs_b28 {p : Program} {l : Launch} {e : Env} {s : State} {m : MethodId} {args : Array Value} {below : List Frame} {meth : Method} {c : Code} {G : Gw} {x0 : Nat} {x1 : Int32} {x2 : Int32} {Φ : Hp → Int32 → Prop} (C0 : Mx p s m c cX8_pairs 6 args yX8_pairs.cls G) (Y : My meth (some .int)) {k17 : Hp → Int32 → Int32 → Prop} (hk17 : ∀ (S : Hp) (v3 : Int32) (v4 : Int32) (H : Heap) (locs : List Loc) (ls : Array Slot), k17 S v3 v4 → Ok G S H → va_S (Ab G.b) s.heap H locs → lv_has ls 6 [(0, .ref x0), (1, .int x1), (2, .int x2), (3, .int v3), (4, .int v4)] → W p l e rm_X8_pairs s m args below meth c H locs 0 0 (MQ below (gQ G (PI Φ)) args s rm_X8_pairs.cells rm_X8_pairs.slots (Ab G.b)) (F0 m 17 ls [])) : ∀ n9 : Nat, ∀ (S : Hp) (v3 : Int32) (v4 : Int32) (v5 : Int32) (H : Heap) (locs : List Loc) (ls : Array Slot), it4 (wX8_pairs_b28 x0 x1 x2 Φ k17) n9 S v3 v4 v5 → Ok G S H → va_S (Ab G.b) s.heap H locs → lv_has ls 6 [(0, .ref x0), (1, .int x1), (2, .int x2), (3, .int v3), (4, .int v4), (5, .int v5)] → W p l e rm_X8_pairs s m args below meth c H locs 0 0 (MQ below (gQ G (PI Φ)) args s rm_X8_pairs.cells rm_X8_pairs.slots (Ab G.b)) (F0 m 28 ls []) := by
  intro n9
  induction n9 with
  | zero => intro S v3 v4 v5 H locs ls h; exact (h : False).elim
  | succ n9 ih => intro S v3 v4 v5 H locs ls h hO hS hl; exact bX8_pairs_b28 C0 Y hk17 ih S v3 v4 v5 H locs ls h hO hS hl
def wX8_pairs_b17 (x0 : Nat) (x1 : Int32) (x2 : Int32) (Φ : Hp → Int32 → Prop) (k17 : Hp → Int32 → Int32 → Prop) (S : Hp) (v3 : Int32) (v4 : Int32) : Prop := ((30 < v4 → Φ S v3) ∧ (¬ (30 < v4) → ∃ n, it4 (wX8_pairs_b28 x0 x1 x2 Φ k17) n S v3 v4 6))
set_option maxHeartbeats 4000000 in
set_option maxRecDepth 100000 in
theorem bX8_pairs_b17 {p : Program} {l : Launch} {e : Env} {s : State} {m : MethodId} {args : Array Value} {below : List Frame} {meth : Method} {c : Code} {G : Gw} {x0 : Nat} {x1 : Int32} {x2 : Int32} {Φ : Hp → Int32 → Prop} (C0 : Mx p s m c cX8_pairs 6 args yX8_pairs.cls G) (Y : My meth (some .int)) {k17 : Hp → Int32 → Int32 → Prop} (hk17 : ∀ (S : Hp) (v3 : Int32) (v4 : Int32) (H : Heap) (locs : List Loc) (ls : Array Slot), k17 S v3 v4 → Ok G S H → va_S (Ab G.b) s.heap H locs → lv_has ls 6 [(0, .ref x0), (1, .int x1), (2, .int x2), (3, .int v3), (4, .int v4)] → W p l e rm_X8_pairs s m args below meth c H locs 0 0 (MQ below (gQ G (PI Φ)) args s rm_X8_pairs.cells rm_X8_pairs.slots (Ab G.b)) (F0 m 17 ls [])) : ∀ (S : Hp) (v3 : Int32) (v4 : Int32) (H : Heap) (locs : List Loc) (ls : Array Slot), wX8_pairs_b17 x0 x1 x2 Φ k17 S v3 v4 → Ok G S H → va_S (Ab G.b) s.heap H locs → lv_has ls 6 [(0, .ref x0), (1, .int x1), (2, .int x2), (3, .int v3), (4, .int v4)] → W p l e rm_X8_pairs s m args below meth c H locs 0 0 (MQ below (gQ G (PI Φ)) args s rm_X8_pairs.cells rm_X8_pairs.slots (Ab G.b)) (F0 m 17 ls []) := by
  intro S v3 v4 H locs ls h hO hS hl
  unfold wX8_pairs_b17 at h
  refine lv_iload C0.1 C0.2.1 dX8_pairs_17 (lv_at hl 4 rfl) ?_
  refine lv_bipush (v := 30) C0.1 C0.2.1 dX8_pairs_19 (by decide) ?_
  refine lv_icmp_gt (tgt := 66) C0.1 C0.2.1 dX8_pairs_21 (by decide) (fun c1 => ?_) (fun c1 => ?_)
  · have h := h.1 c1
    refine lv_iload_n C0.1 C0.2.1 dX8_pairs_66 rfl (lv_at hl 3 rfl) ?_
    exact e_I C0 Y hO hS h (Nat.le_refl _) (Nat.le_refl _) dX8_pairs_67
  · have h := h.2 c1
    refine lv_bipush (v := 6) C0.1 C0.2.1 dX8_pairs_24 (by decide) ?_
    refine lv_istore C0.1 C0.2.1 dX8_pairs_26 hl (by decide) rfl (fun ls hl => ?_)
    obtain ⟨n9, h⟩ := h
    exact lX8_pairs_b28 C0 Y hk17 n9 _ _ _ _ _ _ _ h hO hS (lv_sub hl [1, 2, 3, 4, 5, 0] rfl)
set_option maxHeartbeats 4000000 in
set_option maxRecDepth 100000 in
theorem lX8_pairs_b17 {p : Program} {l : Launch} {e : Env} {s : State} {m : MethodId} {args : Array Value} {below : List Frame} {meth : Method} {c : Code} {G : Gw} {x0 : Nat} {x1 : Int32} {x2 : Int32} {Φ : Hp → Int32 → Prop} (C0 : Mx p s m c cX8_pairs 6 args yX8_pairs.cls G) (Y : My meth (some .int))  : ∀ n9 : Nat, ∀ (S : Hp) (v3 : Int32) (v4 : Int32) (H : Heap) (locs : List Loc) (ls : Array Slot), it3 (wX8_pairs_b17 x0 x1 x2 Φ) n9 S v3 v4 → Ok G S H → va_S (Ab G.b) s.heap H locs → lv_has ls 6 [(0, .ref x0), (1, .int x1), (2, .int x2), (3, .int v3), (4, .int v4)] → W p l e rm_X8_pairs s m args below meth c H locs 0 0 (MQ below (gQ G (PI Φ)) args s rm_X8_pairs.cells rm_X8_pairs.slots (Ab G.b)) (F0 m 17 ls []) := by
  intro n9
  induction n9 with
  | zero => intro S v3 v4 H locs ls h; exact (h : False).elim
  | succ n9 ih => intro S v3 v4 H locs ls h hO hS hl; exact bX8_pairs_b17 C0 Y ih S v3 v4 H locs ls h hO hS hl
def wX8_pairs_b0 (x0 : Nat) (x1 : Int32) (x2 : Int32) (Φ : Hp → Int32 → Prop) (S : Hp) : Prop := isA S x0 8 ∧ wX8_isNoRatio S x0 x1 x2 (fun S1 r2 => ((r2 = 0 → ∃ n, it3 (wX8_pairs_b17 x0 x1 x2 Φ) n S1 0 6) ∧ (¬ (r2 = 0) → Φ S1 0)))
set_option maxHeartbeats 4000000 in
set_option maxRecDepth 100000 in
theorem bX8_pairs_b0 {p : Program} {l : Launch} {e : Env} {s : State} {m : MethodId} {args : Array Value} {below : List Frame} {meth : Method} {c : Code} {G : Gw} {x0 : Nat} {x1 : Int32} {x2 : Int32} {Φ : Hp → Int32 → Prop} (C0 : Mx p s m c cX8_pairs 6 args yX8_pairs.cls G) (Y : My meth (some .int))  : ∀ (S : Hp) (H : Heap) (locs : List Loc) (ls : Array Slot), wX8_pairs_b0 x0 x1 x2 Φ S → Ok G S H → va_S (Ab G.b) s.heap H locs → lv_has ls 6 [(0, .ref x0), (1, .int x1), (2, .int x2)] → W p l e rm_X8_pairs s m args below meth c H locs 0 0 (MQ below (gQ G (PI Φ)) args s rm_X8_pairs.cells rm_X8_pairs.slots (Ab G.b)) (F0 m 0 ls []) := by
  intro S H locs ls h hO hS hl
  unfold wX8_pairs_b0 at h
  refine lv_aload_n C0.1 C0.2.1 dX8_pairs_0 rfl (lv_at hl 0 rfl) ?_
  refine lv_iload_n C0.1 C0.2.1 dX8_pairs_1 rfl (lv_at hl 1 rfl) ?_
  refine lv_iload_n C0.1 C0.2.1 dX8_pairs_2 rfl (lv_at hl 2 rfl) ?_
  obtain ⟨i3, h⟩ := h
  refine c_V C0 hO hS (mX8_isNoRatio h) i3 (by decide) rfl rfl tb_1756 tb_1758 tb_71 tb_81 tb_1759 hd_X8_isNoRatio rfl ⟨⟨by decide, by decide⟩, by decide, by decide⟩ hl.1 rfl (Nat.le_of_ble_eq_true rfl) dX8_pairs_3 (kI (fun r2 S1 H locs h hO hS => ?_))
  refine lv_if_eq (tgt := 11) C0.1 C0.2.1 dX8_pairs_6 (by decide) (fun c4 => ?_) (fun c4 => ?_)
  · have h := h.1 c4
    refine lv_iconst (v := 0) C0.1 C0.2.1 dX8_pairs_11 (by decide) ?_
    refine lv_istore_n C0.1 C0.2.1 dX8_pairs_12 rfl hl (by decide) rfl (fun ls hl => ?_)
    refine lv_bipush (v := 6) C0.1 C0.2.1 dX8_pairs_13 (by decide) ?_
    refine lv_istore C0.1 C0.2.1 dX8_pairs_15 hl (by decide) rfl (fun ls hl => ?_)
    obtain ⟨n9, h⟩ := h
    exact lX8_pairs_b17 C0 Y n9 _ _ _ _ _ _ h hO hS (lv_sub hl [2, 3, 4, 1, 0] rfl)
  · have h := h.2 c4
    refine lv_iconst (v := 0) C0.1 C0.2.1 dX8_pairs_9 (by decide) ?_
    exact e_I C0 Y hO hS h (Nat.le_refl _) (Nat.le_refl _) dX8_pairs_10
def wX8_pairs (S : Hp) (x0 : Nat) (x1 : Int32) (x2 : Int32) (Φ : Hp → Int32 → Prop) : Prop := wX8_pairs_b0 x0 x1 x2 Φ S
set_option maxRecDepth 100000 in
theorem mX8_pairs {l : Launch} {G : Gw} {S : Hp} {x0 : Nat} {x1 : Int32} {x2 : Int32} {Φ : Hp → Int32 → Prop} (h : wX8_pairs S x0 x1 x2 Φ) : gM l yX8_pairs cX8_pairs 6 (some .int) rm_X8_pairs [.ref x0, .int x1, .int x2] G S (PI Φ) := by
  unfold gM
  refine Met.ofW (cc := cX8_pairs) (maxL := 6) (ret := (some .int)) (by decide) rfl ?_
  intro p e s m args below meth c s₁ B hml hv
  obtain ⟨rfl, hw⟩ := hv
  obtain ⟨C0, Y, hO⟩ := mx_of B hml hw
  have hS : va_S (Ab G.b) s.heap s.heap [] := va_S.rf
  have hl := lv_entry ([.ref x0, .int x1, .int x2]) (n := 6) (Nat.le_of_ble_eq_true rfl)
  rw [lg_entry_eq]
  generalize (lg_sl ([.ref x0, .int x1, .int x2]) ++ List.replicate (6 - (lg_sl ([.ref x0, .int x1, .int x2])).length) Slot.unset).toArray = ls at hl ⊢
  have hl : lv_has ls 6 [(0, .ref x0), (1, .int x1), (2, .int x2)] := hl
  exact bX8_pairs_b0 C0 Y S _ _ _ h hO hS hl

def rm_X8_checksum : Room := { frames := 0, cells := 0, slots := 0, locals := 0 }
def wX8_checksum_b77 (x0 : Nat) (Φ : Hp → Int64 → Prop) (k53 : Hp → Int64 → Int32 → Prop) (k77 : Hp → Int64 → Int32 → Nat → Int32 → Int32 → Prop) (S : Hp) (v1 : Int64) (v3 : Int32) (v4 : Nat) (v5 : Int32) (v6 : Int32) : Prop := ((v5 ≤ v6 → k53 S v1 (v3 + 1)) ∧ (¬ (v5 ≤ v6) → isA S v4 21 ∧ vp_in v6 (S.N v4) ∧ k77 S ((31 * v1) + ((S.AI v4 v6.toNatClampNeg).toInt64)) v3 v4 v5 (v6 + 1)))
set_option maxHeartbeats 4000000 in
set_option maxRecDepth 100000 in
theorem bX8_checksum_b77 {p : Program} {l : Launch} {e : Env} {s : State} {m : MethodId} {args : Array Value} {below : List Frame} {meth : Method} {c : Code} {G : Gw} {x0 : Nat} {Φ : Hp → Int64 → Prop} (C0 : Mx p s m c cX8_checksum 8 args yX8_checksum.cls G) (Y : My meth (some .long)) {k53 : Hp → Int64 → Int32 → Prop} (hk53 : ∀ (S : Hp) (v1 : Int64) (v3 : Int32) (H : Heap) (locs : List Loc) (ls : Array Slot), k53 S v1 v3 → Ok G S H → va_S (Ab G.b) s.heap H locs → lv_has ls 8 [(0, .ref x0), (1, .long v1), (3, .int v3)] → W p l e rm_X8_checksum s m args below meth c H locs 0 0 (MQ below (gQ G (PJ Φ)) args s rm_X8_checksum.cells rm_X8_checksum.slots (Ab G.b)) (F0 m 53 ls [])) {k77 : Hp → Int64 → Int32 → Nat → Int32 → Int32 → Prop} (hk77 : ∀ (S : Hp) (v1 : Int64) (v3 : Int32) (v4 : Nat) (v5 : Int32) (v6 : Int32) (H : Heap) (locs : List Loc) (ls : Array Slot), k77 S v1 v3 v4 v5 v6 → Ok G S H → va_S (Ab G.b) s.heap H locs → lv_has ls 8 [(0, .ref x0), (1, .long v1), (3, .int v3), (4, .ref v4), (5, .int v5), (6, .int v6)] → W p l e rm_X8_checksum s m args below meth c H locs 0 0 (MQ below (gQ G (PJ Φ)) args s rm_X8_checksum.cells rm_X8_checksum.slots (Ab G.b)) (F0 m 77 ls [])) : ∀ (S : Hp) (v1 : Int64) (v3 : Int32) (v4 : Nat) (v5 : Int32) (v6 : Int32) (H : Heap) (locs : List Loc) (ls : Array Slot), wX8_checksum_b77 x0 Φ k53 k77 S v1 v3 v4 v5 v6 → Ok G S H → va_S (Ab G.b) s.heap H locs → lv_has ls 8 [(0, .ref x0), (1, .long v1), (3, .int v3), (4, .ref v4), (5, .int v5), (6, .int v6)] → W p l e rm_X8_checksum s m args below meth c H locs 0 0 (MQ below (gQ G (PJ Φ)) args s rm_X8_checksum.cells rm_X8_checksum.slots (Ab G.b)) (F0 m 77 ls []) := by
  intro S v1 v3 v4 v5 v6 H locs ls h hO hS hl
  unfold wX8_checksum_b77 at h
  refine lv_iload C0.1 C0.2.1 dX8_checksum_77 (lv_at hl 5 rfl) ?_
  refine lv_iload C0.1 C0.2.1 dX8_checksum_79 (lv_at hl 4 rfl) ?_
  refine lv_icmp_ge (tgt := 107) C0.1 C0.2.1 dX8_checksum_81 (by decide) (fun c1 => ?_) (fun c1 => ?_)
  · have h := h.1 c1
    refine lv_iinc (v := _ + 1) C0.1 C0.2.1 dX8_checksum_107 hl (k := 2) rfl rfl (by decide) rfl (fun ls hl => ?_)
    refine lv_goto (tgt := 53) C0.1 C0.2.1 dX8_checksum_110 (by decide) ?_
    exact hk53 _ _ _ _ _ _ h hO hS (lv_sub hl [1, 2, 0] rfl)
  · have h := h.2 c1
    refine lv_aload C0.1 C0.2.1 dX8_checksum_84 (lv_at hl 3 rfl) ?_
    refine lv_iload C0.1 C0.2.1 dX8_checksum_86 (lv_at hl 5 rfl) ?_
    obtain ⟨i2, h⟩ := h
    obtain ⟨e3, h⟩ := h
    refine r_iald C0 hO i2 e3 dX8_checksum_88 ?_
    refine lv_istore C0.1 C0.2.1 dX8_checksum_89 hl (by decide) rfl (fun ls hl => ?_)
    refine lv_ldc2 (v := 31) C0.1 C0.2.1 C0.2.2.2.1 (C0.2.2.2.2.1 _ tb_1769) dX8_checksum_91 ?_
    refine lv_lload_n C0.1 C0.2.1 dX8_checksum_94 rfl (lv_at hl 2 rfl) ?_
    refine lv_lmul C0.1 C0.2.1 dX8_checksum_95 ?_
    refine lv_iload C0.1 C0.2.1 dX8_checksum_96 (lv_at hl 0 rfl) ?_
    refine lv_i2l C0.1 C0.2.1 dX8_checksum_98 rfl ?_
    refine lv_ladd C0.1 C0.2.1 dX8_checksum_99 ?_
    refine lv_lstore_n C0.1 C0.2.1 dX8_checksum_100 rfl hl (by decide) rfl (fun ls hl => ?_)
    refine lv_iinc (v := _ + 1) C0.1 C0.2.1 dX8_checksum_101 hl (k := 6) rfl rfl (by decide) rfl (fun ls hl => ?_)
    refine lv_goto (tgt := 77) C0.1 C0.2.1 dX8_checksum_104 (by decide) ?_
    exact hk77 _ _ _ _ _ _ _ _ _ h hO hS (lv_sub hl [3, 1, 4, 5, 6, 0] rfl)
set_option maxHeartbeats 4000000 in
set_option maxRecDepth 100000 in
theorem lX8_checksum_b77 {p : Program} {l : Launch} {e : Env} {s : State} {m : MethodId} {args : Array Value} {below : List Frame} {meth : Method} {c : Code} {G : Gw} {x0 : Nat} {Φ : Hp → Int64 → Prop} (C0 : Mx p s m c cX8_checksum 8 args yX8_checksum.cls G) (Y : My meth (some .long)) {k53 : Hp → Int64 → Int32 → Prop} (hk53 : ∀ (S : Hp) (v1 : Int64) (v3 : Int32) (H : Heap) (locs : List Loc) (ls : Array Slot), k53 S v1 v3 → Ok G S H → va_S (Ab G.b) s.heap H locs → lv_has ls 8 [(0, .ref x0), (1, .long v1), (3, .int v3)] → W p l e rm_X8_checksum s m args below meth c H locs 0 0 (MQ below (gQ G (PJ Φ)) args s rm_X8_checksum.cells rm_X8_checksum.slots (Ab G.b)) (F0 m 53 ls [])) : ∀ n9 : Nat, ∀ (S : Hp) (v1 : Int64) (v3 : Int32) (v4 : Nat) (v5 : Int32) (v6 : Int32) (H : Heap) (locs : List Loc) (ls : Array Slot), it6 (wX8_checksum_b77 x0 Φ k53) n9 S v1 v3 v4 v5 v6 → Ok G S H → va_S (Ab G.b) s.heap H locs → lv_has ls 8 [(0, .ref x0), (1, .long v1), (3, .int v3), (4, .ref v4), (5, .int v5), (6, .int v6)] → W p l e rm_X8_checksum s m args below meth c H locs 0 0 (MQ below (gQ G (PJ Φ)) args s rm_X8_checksum.cells rm_X8_checksum.slots (Ab G.b)) (F0 m 77 ls []) := by
  intro n9
  induction n9 with
  | zero => intro S v1 v3 v4 v5 v6 H locs ls h; exact (h : False).elim
  | succ n9 ih => intro S v1 v3 v4 v5 v6 H locs ls h hO hS hl; exact bX8_checksum_b77 C0 Y hk53 ih S v1 v3 v4 v5 v6 H locs ls h hO hS hl
def wX8_checksum_b53 (x0 : Nat) (Φ : Hp → Int64 → Prop) (k53 : Hp → Int64 → Int32 → Prop) (S : Hp) (v1 : Int64) (v3 : Int32) : Prop := isA S x0 8 ∧ (((S.FI 546 x0) ≤ v3 → Φ S v1) ∧ (¬ ((S.FI 546 x0) ≤ v3) → ∃ a3, S.FR 542 x0 = some a3 ∧ isA S a3 26 ∧ vp_in v3 (S.N a3) ∧ ∃ a6, S.AR a3 v3.toNatClampNeg = some a6 ∧ isA S a6 21 ∧ ∃ n, it6 (wX8_checksum_b77 x0 Φ k53) n S v1 v3 a6 (nI (S.N a6)) 0))
set_option maxHeartbeats 4000000 in
set_option maxRecDepth 100000 in
theorem bX8_checksum_b53 {p : Program} {l : Launch} {e : Env} {s : State} {m : MethodId} {args : Array Value} {below : List Frame} {meth : Method} {c : Code} {G : Gw} {x0 : Nat} {Φ : Hp → Int64 → Prop} (C0 : Mx p s m c cX8_checksum 8 args yX8_checksum.cls G) (Y : My meth (some .long)) {k53 : Hp → Int64 → Int32 → Prop} (hk53 : ∀ (S : Hp) (v1 : Int64) (v3 : Int32) (H : Heap) (locs : List Loc) (ls : Array Slot), k53 S v1 v3 → Ok G S H → va_S (Ab G.b) s.heap H locs → lv_has ls 8 [(0, .ref x0), (1, .long v1), (3, .int v3)] → W p l e rm_X8_checksum s m args below meth c H locs 0 0 (MQ below (gQ G (PJ Φ)) args s rm_X8_checksum.cells rm_X8_checksum.slots (Ab G.b)) (F0 m 53 ls [])) : ∀ (S : Hp) (v1 : Int64) (v3 : Int32) (H : Heap) (locs : List Loc) (ls : Array Slot), wX8_checksum_b53 x0 Φ k53 S v1 v3 → Ok G S H → va_S (Ab G.b) s.heap H locs → lv_has ls 8 [(0, .ref x0), (1, .long v1), (3, .int v3)] → W p l e rm_X8_checksum s m args below meth c H locs 0 0 (MQ below (gQ G (PJ Φ)) args s rm_X8_checksum.cells rm_X8_checksum.slots (Ab G.b)) (F0 m 53 ls []) := by
  intro S v1 v3 H locs ls h hO hS hl
  unfold wX8_checksum_b53 at h
  refine lv_iload_n C0.1 C0.2.1 dX8_checksum_53 rfl (lv_at hl 2 rfl) ?_
  refine lv_aload_n C0.1 C0.2.1 dX8_checksum_54 rfl (lv_at hl 0 rfl) ?_
  obtain ⟨i1, h⟩ := h
  refine g8_34 C0 hO i1 tb_1362 dX8_checksum_55 ?_
  refine lv_icmp_ge (tgt := 113) C0.1 C0.2.1 dX8_checksum_58 (by decide) (fun c2 => ?_) (fun c2 => ?_)
  · have h := h.1 c2
    refine lv_lload_n C0.1 C0.2.1 dX8_checksum_113 rfl (lv_at hl 1 rfl) ?_
    exact e_J C0 Y hO hS h (Nat.le_refl _) (Nat.le_refl _) dX8_checksum_114
  · have h := h.2 c2
    refine lv_aload_n C0.1 C0.2.1 dX8_checksum_61 rfl (lv_at hl 0 rfl) ?_
    obtain ⟨a3, ea3, h⟩ := h
    refine g8_30 C0 hO i1 ea3 tb_1358 dX8_checksum_62 ?_
    refine lv_iload_n C0.1 C0.2.1 dX8_checksum_65 rfl (lv_at hl 2 rfl) ?_
    obtain ⟨i4, h⟩ := h
    obtain ⟨e5, a6, ea6, h⟩ := h
    refine r_oald26 C0 hO i4 e5 dX8_checksum_66 ?_
    rw [ea6]
    change W _ _ _ _ _ _ _ _ _ _ _ _ _ _ _ (F0 _ _ _ (.ref a6 :: _))
    refine lv_astore C0.1 C0.2.1 dX8_checksum_67 hl (by decide) rfl (fun ls hl => ?_)
    refine lv_aload C0.1 C0.2.1 dX8_checksum_69 (lv_at hl 0 rfl) ?_
    obtain ⟨i7, h⟩ := h
    refine r_len (k := 21) (t := 1) C0 hO i7 (by decide) rfl dX8_checksum_71 ?_
    refine lv_istore C0.1 C0.2.1 dX8_checksum_72 hl (by decide) rfl (fun ls hl => ?_)
    refine lv_iconst (v := 0) C0.1 C0.2.1 dX8_checksum_74 (by decide) ?_
    refine lv_istore C0.1 C0.2.1 dX8_checksum_75 hl (by decide) rfl (fun ls hl => ?_)
    obtain ⟨n9, h⟩ := h
    exact lX8_checksum_b77 C0 Y hk53 n9 _ _ _ _ _ _ _ _ _ h hO hS (lv_sub hl [3, 4, 5, 2, 1, 0] rfl)
set_option maxHeartbeats 4000000 in
set_option maxRecDepth 100000 in
theorem lX8_checksum_b53 {p : Program} {l : Launch} {e : Env} {s : State} {m : MethodId} {args : Array Value} {below : List Frame} {meth : Method} {c : Code} {G : Gw} {x0 : Nat} {Φ : Hp → Int64 → Prop} (C0 : Mx p s m c cX8_checksum 8 args yX8_checksum.cls G) (Y : My meth (some .long))  : ∀ n9 : Nat, ∀ (S : Hp) (v1 : Int64) (v3 : Int32) (H : Heap) (locs : List Loc) (ls : Array Slot), it3 (wX8_checksum_b53 x0 Φ) n9 S v1 v3 → Ok G S H → va_S (Ab G.b) s.heap H locs → lv_has ls 8 [(0, .ref x0), (1, .long v1), (3, .int v3)] → W p l e rm_X8_checksum s m args below meth c H locs 0 0 (MQ below (gQ G (PJ Φ)) args s rm_X8_checksum.cells rm_X8_checksum.slots (Ab G.b)) (F0 m 53 ls []) := by
  intro n9
  induction n9 with
  | zero => intro S v1 v3 H locs ls h; exact (h : False).elim
  | succ n9 ih => intro S v1 v3 H locs ls h hO hS hl; exact bX8_checksum_b53 C0 Y ih S v1 v3 H locs ls h hO hS hl
def wX8_checksum_b11 (x0 : Nat) (Φ : Hp → Int64 → Prop) (k11 : Hp → Int64 → Int32 → Prop) (S : Hp) (v1 : Int64) (v3 : Int32) : Prop := isA S x0 8 ∧ (((S.FI 543 x0) ≤ v3 → ∃ n, it3 (wX8_checksum_b53 x0 Φ) n S v1 0) ∧ (¬ ((S.FI 543 x0) ≤ v3) → ∃ a3, S.FR 512 x0 = some a3 ∧ isA S a3 22 ∧ vp_in v3 (S.N a3) ∧ ∃ a6, S.FR 513 x0 = some a6 ∧ isA S a6 22 ∧ vp_in v3 (S.N a6) ∧ k11 S ((31 * ((31 * v1) + (S.AJ a3 v3.toNatClampNeg))) + (S.AJ a6 v3.toNatClampNeg)) (v3 + 1)))
set_option maxHeartbeats 4000000 in
set_option maxRecDepth 100000 in
theorem bX8_checksum_b11 {p : Program} {l : Launch} {e : Env} {s : State} {m : MethodId} {args : Array Value} {below : List Frame} {meth : Method} {c : Code} {G : Gw} {x0 : Nat} {Φ : Hp → Int64 → Prop} (C0 : Mx p s m c cX8_checksum 8 args yX8_checksum.cls G) (Y : My meth (some .long)) {k11 : Hp → Int64 → Int32 → Prop} (hk11 : ∀ (S : Hp) (v1 : Int64) (v3 : Int32) (H : Heap) (locs : List Loc) (ls : Array Slot), k11 S v1 v3 → Ok G S H → va_S (Ab G.b) s.heap H locs → lv_has ls 8 [(0, .ref x0), (1, .long v1), (3, .int v3)] → W p l e rm_X8_checksum s m args below meth c H locs 0 0 (MQ below (gQ G (PJ Φ)) args s rm_X8_checksum.cells rm_X8_checksum.slots (Ab G.b)) (F0 m 11 ls [])) : ∀ (S : Hp) (v1 : Int64) (v3 : Int32) (H : Heap) (locs : List Loc) (ls : Array Slot), wX8_checksum_b11 x0 Φ k11 S v1 v3 → Ok G S H → va_S (Ab G.b) s.heap H locs → lv_has ls 8 [(0, .ref x0), (1, .long v1), (3, .int v3)] → W p l e rm_X8_checksum s m args below meth c H locs 0 0 (MQ below (gQ G (PJ Φ)) args s rm_X8_checksum.cells rm_X8_checksum.slots (Ab G.b)) (F0 m 11 ls []) := by
  intro S v1 v3 H locs ls h hO hS hl
  unfold wX8_checksum_b11 at h
  refine lv_iload_n C0.1 C0.2.1 dX8_checksum_11 rfl (lv_at hl 2 rfl) ?_
  refine lv_aload_n C0.1 C0.2.1 dX8_checksum_12 rfl (lv_at hl 0 rfl) ?_
  obtain ⟨i1, h⟩ := h
  refine g8_31 C0 hO i1 tb_1359 dX8_checksum_13 ?_
  refine lv_icmp_ge (tgt := 51) C0.1 C0.2.1 dX8_checksum_16 (by decide) (fun c2 => ?_) (fun c2 => ?_)
  · have h := h.1 c2
    refine lv_iconst (v := 0) C0.1 C0.2.1 dX8_checksum_51 (by decide) ?_
    refine lv_istore_n C0.1 C0.2.1 dX8_checksum_52 rfl hl (by decide) rfl (fun ls hl => ?_)
    obtain ⟨n9, h⟩ := h
    exact lX8_checksum_b53 C0 Y n9 _ _ _ _ _ _ h hO hS (lv_sub hl [1, 2, 0] rfl)
  · have h := h.2 c2
    refine lv_ldc2 (v := 31) C0.1 C0.2.1 C0.2.2.2.1 (C0.2.2.2.2.1 _ tb_1769) dX8_checksum_19 ?_
    refine lv_lload_n C0.1 C0.2.1 dX8_checksum_22 rfl (lv_at hl 1 rfl) ?_
    refine lv_lmul C0.1 C0.2.1 dX8_checksum_23 ?_
    refine lv_aload_n C0.1 C0.2.1 dX8_checksum_24 rfl (lv_at hl 0 rfl) ?_
    obtain ⟨a3, ea3, h⟩ := h
    refine g8_0 C0 hO i1 ea3 tb_1328 dX8_checksum_25 ?_
    refine lv_iload_n C0.1 C0.2.1 dX8_checksum_28 rfl (lv_at hl 2 rfl) ?_
    obtain ⟨i4, h⟩ := h
    obtain ⟨e5, h⟩ := h
    refine r_lald C0 hO i4 e5 dX8_checksum_29 ?_
    refine lv_ladd C0.1 C0.2.1 dX8_checksum_30 ?_
    refine lv_lstore_n C0.1 C0.2.1 dX8_checksum_31 rfl hl (by decide) rfl (fun ls hl => ?_)
    refine lv_ldc2 (v := 31) C0.1 C0.2.1 C0.2.2.2.1 (C0.2.2.2.2.1 _ tb_1769) dX8_checksum_32 ?_
    refine lv_lload_n C0.1 C0.2.1 dX8_checksum_35 rfl (lv_at hl 0 rfl) ?_
    refine lv_lmul C0.1 C0.2.1 dX8_checksum_36 ?_
    refine lv_aload_n C0.1 C0.2.1 dX8_checksum_37 rfl (lv_at hl 1 rfl) ?_
    obtain ⟨a6, ea6, h⟩ := h
    refine g8_1 C0 hO i1 ea6 tb_1329 dX8_checksum_38 ?_
    refine lv_iload_n C0.1 C0.2.1 dX8_checksum_41 rfl (lv_at hl 2 rfl) ?_
    obtain ⟨i7, h⟩ := h
    obtain ⟨e8, h⟩ := h
    refine r_lald C0 hO i7 e8 dX8_checksum_42 ?_
    refine lv_ladd C0.1 C0.2.1 dX8_checksum_43 ?_
    refine lv_lstore_n C0.1 C0.2.1 dX8_checksum_44 rfl hl (by decide) rfl (fun ls hl => ?_)
    refine lv_iinc (v := _ + 1) C0.1 C0.2.1 dX8_checksum_45 hl (k := 2) rfl rfl (by decide) rfl (fun ls hl => ?_)
    refine lv_goto (tgt := 11) C0.1 C0.2.1 dX8_checksum_48 (by decide) ?_
    exact hk11 _ _ _ _ _ _ h hO hS (lv_sub hl [2, 1, 0] rfl)
set_option maxHeartbeats 4000000 in
set_option maxRecDepth 100000 in
theorem lX8_checksum_b11 {p : Program} {l : Launch} {e : Env} {s : State} {m : MethodId} {args : Array Value} {below : List Frame} {meth : Method} {c : Code} {G : Gw} {x0 : Nat} {Φ : Hp → Int64 → Prop} (C0 : Mx p s m c cX8_checksum 8 args yX8_checksum.cls G) (Y : My meth (some .long))  : ∀ n9 : Nat, ∀ (S : Hp) (v1 : Int64) (v3 : Int32) (H : Heap) (locs : List Loc) (ls : Array Slot), it3 (wX8_checksum_b11 x0 Φ) n9 S v1 v3 → Ok G S H → va_S (Ab G.b) s.heap H locs → lv_has ls 8 [(0, .ref x0), (1, .long v1), (3, .int v3)] → W p l e rm_X8_checksum s m args below meth c H locs 0 0 (MQ below (gQ G (PJ Φ)) args s rm_X8_checksum.cells rm_X8_checksum.slots (Ab G.b)) (F0 m 11 ls []) := by
  intro n9
  induction n9 with
  | zero => intro S v1 v3 H locs ls h; exact (h : False).elim
  | succ n9 ih => intro S v1 v3 H locs ls h hO hS hl; exact bX8_checksum_b11 C0 Y ih S v1 v3 H locs ls h hO hS hl
def wX8_checksum_b0 (x0 : Nat) (Φ : Hp → Int64 → Prop) (S : Hp) : Prop := isA S x0 8 ∧ ∀ S2, S2 = S.setFI 549 x0 0 → ∃ n, it3 (wX8_checksum_b11 x0 Φ) n S2 7 0
set_option maxHeartbeats 4000000 in
set_option maxRecDepth 100000 in
theorem bX8_checksum_b0 {p : Program} {l : Launch} {e : Env} {s : State} {m : MethodId} {args : Array Value} {below : List Frame} {meth : Method} {c : Code} {G : Gw} {x0 : Nat} {Φ : Hp → Int64 → Prop} (C0 : Mx p s m c cX8_checksum 8 args yX8_checksum.cls G) (Y : My meth (some .long))  : ∀ (S : Hp) (H : Heap) (locs : List Loc) (ls : Array Slot), wX8_checksum_b0 x0 Φ S → Ok G S H → va_S (Ab G.b) s.heap H locs → lv_has ls 8 [(0, .ref x0)] → W p l e rm_X8_checksum s m args below meth c H locs 0 0 (MQ below (gQ G (PJ Φ)) args s rm_X8_checksum.cells rm_X8_checksum.slots (Ab G.b)) (F0 m 0 ls []) := by
  intro S H locs ls h hO hS hl
  unfold wX8_checksum_b0 at h
  refine lv_aload_n C0.1 C0.2.1 dX8_checksum_0 rfl (lv_at hl 0 rfl) ?_
  refine lv_iconst (v := 0) C0.1 C0.2.1 dX8_checksum_1 (by decide) ?_
  obtain ⟨i1, h⟩ := h
  refine p8_37 C0 hO hS i1 tb_1365 dX8_checksum_2 (fun H locs hO hS => ?_)
  have h := h _ rfl
  refine lv_ldc2 (v := 7) C0.1 C0.2.1 C0.2.2.2.1 (C0.2.2.2.2.1 _ tb_1768) dX8_checksum_5 ?_
  refine lv_lstore_n C0.1 C0.2.1 dX8_checksum_8 rfl hl (by decide) rfl (fun ls hl => ?_)
  refine lv_iconst (v := 0) C0.1 C0.2.1 dX8_checksum_9 (by decide) ?_
  refine lv_istore_n C0.1 C0.2.1 dX8_checksum_10 rfl hl (by decide) rfl (fun ls hl => ?_)
  obtain ⟨n9, h⟩ := h
  exact lX8_checksum_b11 C0 Y n9 _ _ _ _ _ _ h hO hS (lv_sub hl [2, 1, 0] rfl)
def wX8_checksum (S : Hp) (x0 : Nat) (Φ : Hp → Int64 → Prop) : Prop := wX8_checksum_b0 x0 Φ S
set_option maxRecDepth 100000 in
theorem mX8_checksum {l : Launch} {G : Gw} {S : Hp} {x0 : Nat} {Φ : Hp → Int64 → Prop} (h : wX8_checksum S x0 Φ) : gM l yX8_checksum cX8_checksum 8 (some .long) rm_X8_checksum [.ref x0] G S (PJ Φ) := by
  unfold gM
  refine Met.ofW (cc := cX8_checksum) (maxL := 8) (ret := (some .long)) (by decide) rfl ?_
  intro p e s m args below meth c s₁ B hml hv
  obtain ⟨rfl, hw⟩ := hv
  obtain ⟨C0, Y, hO⟩ := mx_of B hml hw
  have hS : va_S (Ab G.b) s.heap s.heap [] := va_S.rf
  have hl := lv_entry ([.ref x0]) (n := 8) (Nat.le_of_ble_eq_true rfl)
  rw [lg_entry_eq]
  generalize (lg_sl ([.ref x0]) ++ List.replicate (8 - (lg_sl ([.ref x0])).length) Slot.unset).toArray = ls at hl ⊢
  have hl : lv_has ls 8 [(0, .ref x0)] := hl
  exact bX8_checksum_b0 C0 Y S _ _ _ h hO hS hl

def rm_X8_freedomNow : Room := { frames := 0, cells := 0, slots := 0, locals := 0 }
def wX8_freedomNow_b28 (x0 : Nat) (Φ : Hp → Int32 → Prop) (k4 : Hp → Int32 → Int32 → Prop) (S : Hp) (v2 : Int32) (z0 : Int32) (z1 : Int32) : Prop := k4 S (z0 + z1) (v2 + 1)
set_option maxHeartbeats 4000000 in
set_option maxRecDepth 100000 in
theorem bX8_freedomNow_b28 {p : Program} {l : Launch} {e : Env} {s : State} {m : MethodId} {args : Array Value} {below : List Frame} {meth : Method} {c : Code} {G : Gw} {x0 : Nat} {Φ : Hp → Int32 → Prop} (C0 : Mx p s m c cX8_freedomNow 3 args yX8_freedomNow.cls G) (Y : My meth (some .int)) {k4 : Hp → Int32 → Int32 → Prop} (hk4 : ∀ (S : Hp) (v1 : Int32) (v2 : Int32) (H : Heap) (locs : List Loc) (ls : Array Slot), k4 S v1 v2 → Ok G S H → va_S (Ab G.b) s.heap H locs → lv_has ls 3 [(0, .ref x0), (1, .int v1), (2, .int v2)] → W p l e rm_X8_freedomNow s m args below meth c H locs 0 0 (MQ below (gQ G (PI Φ)) args s rm_X8_freedomNow.cells rm_X8_freedomNow.slots (Ab G.b)) (F0 m 4 ls [])) : ∀ (S : Hp) (v2 : Int32) (z0 : Int32) (z1 : Int32) (H : Heap) (locs : List Loc) (ls : Array Slot), wX8_freedomNow_b28 x0 Φ k4 S v2 z0 z1 → Ok G S H → va_S (Ab G.b) s.heap H locs → lv_has ls 3 [(0, .ref x0), (2, .int v2)] → W p l e rm_X8_freedomNow s m args below meth c H locs 0 0 (MQ below (gQ G (PI Φ)) args s rm_X8_freedomNow.cells rm_X8_freedomNow.slots (Ab G.b)) (F0 m 28 ls [.int z1, .int z0]) := by
  intro S v2 z0 z1 H locs ls h hO hS hl
  unfold wX8_freedomNow_b28 at h
  refine lv_iadd C0.1 C0.2.1 dX8_freedomNow_28 ?_
  refine lv_istore_n C0.1 C0.2.1 dX8_freedomNow_29 rfl hl (by decide) rfl (fun ls hl => ?_)
  refine lv_iinc (v := _ + 1) C0.1 C0.2.1 dX8_freedomNow_30 hl (k := 2) rfl rfl (by decide) rfl (fun ls hl => ?_)
  refine lv_goto (tgt := 4) C0.1 C0.2.1 dX8_freedomNow_33 (by decide) ?_
  exact hk4 _ _ _ _ _ _ h hO hS (lv_sub hl [2, 1, 0] rfl)
def wX8_freedomNow_b4 (x0 : Nat) (Φ : Hp → Int32 → Prop) (k4 : Hp → Int32 → Int32 → Prop) (S : Hp) (v1 : Int32) (v2 : Int32) : Prop := isA S x0 8 ∧ (((S.FI 543 x0) ≤ v2 → Φ S v1) ∧ (¬ ((S.FI 543 x0) ≤ v2) → ∃ a3, S.FR 519 x0 = some a3 ∧ isA S a3 21 ∧ vp_in v2 (S.N a3) ∧ ((¬ (S.AI a3 v2.toNatClampNeg) = (-1) → wX8_freedomNow_b28 x0 Φ k4 S v2 v1 0) ∧ ((S.AI a3 v2.toNatClampNeg) = (-1) → wX8_freedomNow_b28 x0 Φ k4 S v2 v1 1))))
set_option maxHeartbeats 4000000 in
set_option maxRecDepth 100000 in
theorem bX8_freedomNow_b4 {p : Program} {l : Launch} {e : Env} {s : State} {m : MethodId} {args : Array Value} {below : List Frame} {meth : Method} {c : Code} {G : Gw} {x0 : Nat} {Φ : Hp → Int32 → Prop} (C0 : Mx p s m c cX8_freedomNow 3 args yX8_freedomNow.cls G) (Y : My meth (some .int)) {k4 : Hp → Int32 → Int32 → Prop} (hk4 : ∀ (S : Hp) (v1 : Int32) (v2 : Int32) (H : Heap) (locs : List Loc) (ls : Array Slot), k4 S v1 v2 → Ok G S H → va_S (Ab G.b) s.heap H locs → lv_has ls 3 [(0, .ref x0), (1, .int v1), (2, .int v2)] → W p l e rm_X8_freedomNow s m args below meth c H locs 0 0 (MQ below (gQ G (PI Φ)) args s rm_X8_freedomNow.cells rm_X8_freedomNow.slots (Ab G.b)) (F0 m 4 ls [])) : ∀ (S : Hp) (v1 : Int32) (v2 : Int32) (H : Heap) (locs : List Loc) (ls : Array Slot), wX8_freedomNow_b4 x0 Φ k4 S v1 v2 → Ok G S H → va_S (Ab G.b) s.heap H locs → lv_has ls 3 [(0, .ref x0), (1, .int v1), (2, .int v2)] → W p l e rm_X8_freedomNow s m args below meth c H locs 0 0 (MQ below (gQ G (PI Φ)) args s rm_X8_freedomNow.cells rm_X8_freedomNow.slots (Ab G.b)) (F0 m 4 ls []) := by
  intro S v1 v2 H locs ls h hO hS hl
  unfold wX8_freedomNow_b4 at h
  refine lv_iload_n C0.1 C0.2.1 dX8_freedomNow_4 rfl (lv_at hl 2 rfl) ?_
  refine lv_aload_n C0.1 C0.2.1 dX8_freedomNow_5 rfl (lv_at hl 0 rfl) ?_
  obtain ⟨i1, h⟩ := h
  refine g8_31 C0 hO i1 tb_1359 dX8_freedomNow_6 ?_
  refine lv_icmp_ge (tgt := 36) C0.1 C0.2.1 dX8_freedomNow_9 (by decide) (fun c2 => ?_) (fun c2 => ?_)
  · have h := h.1 c2
    refine lv_iload_n C0.1 C0.2.1 dX8_freedomNow_36 rfl (lv_at hl 1 rfl) ?_
    exact e_I C0 Y hO hS h (Nat.le_refl _) (Nat.le_refl _) dX8_freedomNow_37
  · have h := h.2 c2
    refine lv_iload_n C0.1 C0.2.1 dX8_freedomNow_12 rfl (lv_at hl 1 rfl) ?_
    refine lv_aload_n C0.1 C0.2.1 dX8_freedomNow_13 rfl (lv_at hl 0 rfl) ?_
    obtain ⟨a3, ea3, h⟩ := h
    refine g8_7 C0 hO i1 ea3 tb_1335 dX8_freedomNow_14 ?_
    refine lv_iload_n C0.1 C0.2.1 dX8_freedomNow_17 rfl (lv_at hl 2 rfl) ?_
    obtain ⟨i4, h⟩ := h
    obtain ⟨e5, h⟩ := h
    refine r_iald C0 hO i4 e5 dX8_freedomNow_18 ?_
    refine lv_iconst (v := (-1)) C0.1 C0.2.1 dX8_freedomNow_19 (by decide) ?_
    refine lv_icmp_ne (tgt := 27) C0.1 C0.2.1 dX8_freedomNow_20 (by decide) (fun c6 => ?_) (fun c6 => ?_)
    · have h := h.1 c6
      refine lv_iconst (v := 0) C0.1 C0.2.1 dX8_freedomNow_27 (by decide) ?_
      exact bX8_freedomNow_b28 C0 Y hk4 _ _ _ _ _ _ _ h hO hS (lv_sub hl [0, 2] rfl)
    · have h := h.2 c6
      refine lv_iconst (v := 1) C0.1 C0.2.1 dX8_freedomNow_23 (by decide) ?_
      refine lv_goto (tgt := 28) C0.1 C0.2.1 dX8_freedomNow_24 (by decide) ?_
      exact bX8_freedomNow_b28 C0 Y hk4 _ _ _ _ _ _ _ h hO hS (lv_sub hl [0, 2] rfl)
set_option maxHeartbeats 4000000 in
set_option maxRecDepth 100000 in
theorem lX8_freedomNow_b4 {p : Program} {l : Launch} {e : Env} {s : State} {m : MethodId} {args : Array Value} {below : List Frame} {meth : Method} {c : Code} {G : Gw} {x0 : Nat} {Φ : Hp → Int32 → Prop} (C0 : Mx p s m c cX8_freedomNow 3 args yX8_freedomNow.cls G) (Y : My meth (some .int))  : ∀ n9 : Nat, ∀ (S : Hp) (v1 : Int32) (v2 : Int32) (H : Heap) (locs : List Loc) (ls : Array Slot), it3 (wX8_freedomNow_b4 x0 Φ) n9 S v1 v2 → Ok G S H → va_S (Ab G.b) s.heap H locs → lv_has ls 3 [(0, .ref x0), (1, .int v1), (2, .int v2)] → W p l e rm_X8_freedomNow s m args below meth c H locs 0 0 (MQ below (gQ G (PI Φ)) args s rm_X8_freedomNow.cells rm_X8_freedomNow.slots (Ab G.b)) (F0 m 4 ls []) := by
  intro n9
  induction n9 with
  | zero => intro S v1 v2 H locs ls h; exact (h : False).elim
  | succ n9 ih => intro S v1 v2 H locs ls h hO hS hl; exact bX8_freedomNow_b4 C0 Y ih S v1 v2 H locs ls h hO hS hl
def wX8_freedomNow_b0 (x0 : Nat) (Φ : Hp → Int32 → Prop) (S : Hp) : Prop := ∃ n, it3 (wX8_freedomNow_b4 x0 Φ) n S 0 0
set_option maxHeartbeats 4000000 in
set_option maxRecDepth 100000 in
theorem bX8_freedomNow_b0 {p : Program} {l : Launch} {e : Env} {s : State} {m : MethodId} {args : Array Value} {below : List Frame} {meth : Method} {c : Code} {G : Gw} {x0 : Nat} {Φ : Hp → Int32 → Prop} (C0 : Mx p s m c cX8_freedomNow 3 args yX8_freedomNow.cls G) (Y : My meth (some .int))  : ∀ (S : Hp) (H : Heap) (locs : List Loc) (ls : Array Slot), wX8_freedomNow_b0 x0 Φ S → Ok G S H → va_S (Ab G.b) s.heap H locs → lv_has ls 3 [(0, .ref x0)] → W p l e rm_X8_freedomNow s m args below meth c H locs 0 0 (MQ below (gQ G (PI Φ)) args s rm_X8_freedomNow.cells rm_X8_freedomNow.slots (Ab G.b)) (F0 m 0 ls []) := by
  intro S H locs ls h hO hS hl
  unfold wX8_freedomNow_b0 at h
  refine lv_iconst (v := 0) C0.1 C0.2.1 dX8_freedomNow_0 (by decide) ?_
  refine lv_istore_n C0.1 C0.2.1 dX8_freedomNow_1 rfl hl (by decide) rfl (fun ls hl => ?_)
  refine lv_iconst (v := 0) C0.1 C0.2.1 dX8_freedomNow_2 (by decide) ?_
  refine lv_istore_n C0.1 C0.2.1 dX8_freedomNow_3 rfl hl (by decide) rfl (fun ls hl => ?_)
  obtain ⟨n9, h⟩ := h
  exact lX8_freedomNow_b4 C0 Y n9 _ _ _ _ _ _ h hO hS (lv_sub hl [2, 1, 0] rfl)
def wX8_freedomNow (S : Hp) (x0 : Nat) (Φ : Hp → Int32 → Prop) : Prop := wX8_freedomNow_b0 x0 Φ S
set_option maxRecDepth 100000 in
theorem mX8_freedomNow {l : Launch} {G : Gw} {S : Hp} {x0 : Nat} {Φ : Hp → Int32 → Prop} (h : wX8_freedomNow S x0 Φ) : gM l yX8_freedomNow cX8_freedomNow 3 (some .int) rm_X8_freedomNow [.ref x0] G S (PI Φ) := by
  unfold gM
  refine Met.ofW (cc := cX8_freedomNow) (maxL := 3) (ret := (some .int)) (by decide) rfl ?_
  intro p e s m args below meth c s₁ B hml hv
  obtain ⟨rfl, hw⟩ := hv
  obtain ⟨C0, Y, hO⟩ := mx_of B hml hw
  have hS : va_S (Ab G.b) s.heap s.heap [] := va_S.rf
  have hl := lv_entry ([.ref x0]) (n := 3) (Nat.le_of_ble_eq_true rfl)
  rw [lg_entry_eq]
  generalize (lg_sl ([.ref x0]) ++ List.replicate (3 - (lg_sl ([.ref x0])).length) Slot.unset).toArray = ls at hl ⊢
  have hl : lv_has ls 3 [(0, .ref x0)] := hl
  exact bX8_freedomNow_b0 C0 Y S _ _ _ h hO hS hl

def rm_X8_drivenShare : Room := { frames := 1, cells := 0, slots := 0, locals := 22 }
def wX8_drivenShare_b13 (x0 : Nat) (Φ : Hp → UInt32 → Prop) (S : Hp) (z0 : Nat) (z1 : Int32) : Prop := isA S z0 8 ∧ wX8_isThrown S z0 z1 1 (fun S1 r2 => ((r2 = 0 → isA S1 x0 8 ∧ wX8_freedomNow S1 x0 (fun S6 r7 => isA S6 x0 8 ∧ vf_n32 (FP.fdiv (FP.i2f ((S1.FI 543 x0) - r7)) (FP.i2f (S6.FI 543 x0))) ∧ Φ S6 (FP.fdiv (FP.i2f ((S1.FI 543 x0) - r7)) (FP.i2f (S6.FI 543 x0))))) ∧ (¬ (r2 = 0) → Φ S1 FP.fconst0)))
set_option maxHeartbeats 4000000 in
set_option maxRecDepth 100000 in
theorem bX8_drivenShare_b13 {p : Program} {l : Launch} {e : Env} {s : State} {m : MethodId} {args : Array Value} {below : List Frame} {meth : Method} {c : Code} {G : Gw} {x0 : Nat} {Φ : Hp → UInt32 → Prop} (C0 : Mx p s m c cX8_drivenShare 1 args yX8_drivenShare.cls G) (Y : My meth (some .float))  : ∀ (S : Hp) (z0 : Nat) (z1 : Int32) (H : Heap) (locs : List Loc) (ls : Array Slot), wX8_drivenShare_b13 x0 Φ S z0 z1 → Ok G S H → va_S (Ab G.b) s.heap H locs → lv_has ls 1 [(0, .ref x0)] → W p l e rm_X8_drivenShare s m args below meth c H locs 0 0 (MQ below (gQ G (PF Φ)) args s rm_X8_drivenShare.cells rm_X8_drivenShare.slots (Ab G.b)) (F0 m 13 ls [.int z1, .ref z0]) := by
  intro S z0 z1 H locs ls h hO hS hl
  unfold wX8_drivenShare_b13 at h
  refine lv_iconst (v := 1) C0.1 C0.2.1 dX8_drivenShare_13 (by decide) ?_
  obtain ⟨i3, h⟩ := h
  refine c_V C0 hO hS (mX8_isThrown h) i3 (by decide) rfl rfl tb_1451 tb_1453 tb_37 tb_81 tb_1454 hd_X8_isThrown rfl ⟨⟨by decide, by decide⟩, by decide, by decide⟩ hl.1 rfl (Nat.le_of_ble_eq_true rfl) dX8_drivenShare_14 (kI (fun r2 S1 H locs h hO hS => ?_))
  refine lv_if_eq (tgt := 24) C0.1 C0.2.1 dX8_drivenShare_17 (by decide) (fun c4 => ?_) (fun c4 => ?_)
  · have h := h.1 c4
    refine lv_aload_n C0.1 C0.2.1 dX8_drivenShare_24 rfl (lv_at hl 0 rfl) ?_
    obtain ⟨i5, h⟩ := h
    refine g8_31 C0 hO i5 tb_1359 dX8_drivenShare_25 ?_
    refine lv_aload_n C0.1 C0.2.1 dX8_drivenShare_28 rfl (lv_at hl 0 rfl) ?_
    refine c_V C0 hO hS (mX8_freedomNow h) i5 (by decide) rfl rfl tb_1774 tb_1776 tb_72 tb_81 tb_1777 hd_X8_freedomNow rfl ⟨⟨by decide, by decide⟩, by decide, by decide⟩ hl.1 rfl (Nat.le_of_ble_eq_true rfl) dX8_drivenShare_29 (kI (fun r7 S6 H locs h hO hS => ?_))
    refine lv_isub C0.1 C0.2.1 dX8_drivenShare_32 ?_
    refine lv_i2f C0.1 C0.2.1 dX8_drivenShare_33 ?_
    refine lv_aload_n C0.1 C0.2.1 dX8_drivenShare_34 rfl (lv_at hl 0 rfl) ?_
    obtain ⟨i8, h⟩ := h
    refine g8_31 C0 hO i8 tb_1359 dX8_drivenShare_35 ?_
    refine lv_i2f C0.1 C0.2.1 dX8_drivenShare_38 ?_
    obtain ⟨e9, h⟩ := h
    refine lv_fdiv C0.1 C0.2.1 dX8_drivenShare_39 e9 ?_
    exact e_F C0 Y hO hS h (Nat.le_refl _) (Nat.le_refl _) dX8_drivenShare_40
  · have h := h.2 c4
    refine lv_fconst0 C0.1 C0.2.1 dX8_drivenShare_20 ?_
    refine lv_goto (tgt := 40) C0.1 C0.2.1 dX8_drivenShare_21 (by decide) ?_
    exact e_F C0 Y hO hS h (Nat.le_refl _) (Nat.le_refl _) dX8_drivenShare_40
def wX8_drivenShare_b0 (x0 : Nat) (Φ : Hp → UInt32 → Prop) (S : Hp) : Prop := isA S x0 8 ∧ ((¬ (S.FI 543 x0) = 0 → wX8_drivenShare_b13 x0 Φ S x0 0) ∧ ((S.FI 543 x0) = 0 → wX8_drivenShare_b13 x0 Φ S x0 1))
set_option maxHeartbeats 4000000 in
set_option maxRecDepth 100000 in
theorem bX8_drivenShare_b0 {p : Program} {l : Launch} {e : Env} {s : State} {m : MethodId} {args : Array Value} {below : List Frame} {meth : Method} {c : Code} {G : Gw} {x0 : Nat} {Φ : Hp → UInt32 → Prop} (C0 : Mx p s m c cX8_drivenShare 1 args yX8_drivenShare.cls G) (Y : My meth (some .float))  : ∀ (S : Hp) (H : Heap) (locs : List Loc) (ls : Array Slot), wX8_drivenShare_b0 x0 Φ S → Ok G S H → va_S (Ab G.b) s.heap H locs → lv_has ls 1 [(0, .ref x0)] → W p l e rm_X8_drivenShare s m args below meth c H locs 0 0 (MQ below (gQ G (PF Φ)) args s rm_X8_drivenShare.cells rm_X8_drivenShare.slots (Ab G.b)) (F0 m 0 ls []) := by
  intro S H locs ls h hO hS hl
  unfold wX8_drivenShare_b0 at h
  refine lv_aload_n C0.1 C0.2.1 dX8_drivenShare_0 rfl (lv_at hl 0 rfl) ?_
  refine lv_aload_n C0.1 C0.2.1 dX8_drivenShare_1 rfl (lv_at hl 0 rfl) ?_
  obtain ⟨i1, h⟩ := h
  refine g8_31 C0 hO i1 tb_1359 dX8_drivenShare_2 ?_
  refine lv_if_ne (tgt := 12) C0.1 C0.2.1 dX8_drivenShare_5 (by decide) (fun c2 => ?_) (fun c2 => ?_)
  · have h := h.1 c2
    refine lv_iconst (v := 0) C0.1 C0.2.1 dX8_drivenShare_12 (by decide) ?_
    exact bX8_drivenShare_b13 C0 Y _ _ _ _ _ _ h hO hS (lv_sub hl [0] rfl)
  · have h := h.2 c2
    refine lv_iconst (v := 1) C0.1 C0.2.1 dX8_drivenShare_8 (by decide) ?_
    refine lv_goto (tgt := 13) C0.1 C0.2.1 dX8_drivenShare_9 (by decide) ?_
    exact bX8_drivenShare_b13 C0 Y _ _ _ _ _ _ h hO hS (lv_sub hl [0] rfl)
def wX8_drivenShare (S : Hp) (x0 : Nat) (Φ : Hp → UInt32 → Prop) : Prop := wX8_drivenShare_b0 x0 Φ S
set_option maxRecDepth 100000 in
theorem mX8_drivenShare {l : Launch} {G : Gw} {S : Hp} {x0 : Nat} {Φ : Hp → UInt32 → Prop} (h : wX8_drivenShare S x0 Φ) : gM l yX8_drivenShare cX8_drivenShare 1 (some .float) rm_X8_drivenShare [.ref x0] G S (PF Φ) := by
  unfold gM
  refine Met.ofW (cc := cX8_drivenShare) (maxL := 1) (ret := (some .float)) (by decide) rfl ?_
  intro p e s m args below meth c s₁ B hml hv
  obtain ⟨rfl, hw⟩ := hv
  obtain ⟨C0, Y, hO⟩ := mx_of B hml hw
  have hS : va_S (Ab G.b) s.heap s.heap [] := va_S.rf
  have hl := lv_entry ([.ref x0]) (n := 1) (Nat.le_of_ble_eq_true rfl)
  rw [lg_entry_eq]
  generalize (lg_sl ([.ref x0]) ++ List.replicate (1 - (lg_sl ([.ref x0])).length) Slot.unset).toArray = ls at hl ⊢
  have hl : lv_has ls 1 [(0, .ref x0)] := hl
  exact bX8_drivenShare_b0 C0 Y S _ _ _ h hO hS hl

def rm_X8_meanWorn : Room := { frames := 1, cells := 0, slots := 0, locals := 22 }
def wX8_meanWorn_b26 (x0 : Nat) (Φ : Hp → UInt64 → Prop) (k26 : Hp → UInt64 → Int32 → Prop) (S : Hp) (v1 : UInt64) (v3 : Int32) : Prop := isA S x0 8 ∧ (((S.FI 544 x0) ≤ v3 → vf_n64 (FP.ddiv v1 (FP.i2d (S.FI 544 x0))) ∧ Φ S (FP.ddiv v1 (FP.i2d (S.FI 544 x0)))) ∧ (¬ ((S.FI 544 x0) ≤ v3) → ∃ a4, S.FR 531 x0 = some a4 ∧ isA S a4 22 ∧ vp_in v3 (S.N a4) ∧ ∃ a7, S.FR 532 x0 = some a7 ∧ isA S a7 22 ∧ vp_in v3 (S.N a7) ∧ vf_n64 (FP.ddiv (FP.l2d (S.AJ a4 v3.toNatClampNeg)) (FP.l2d (S.AJ a7 v3.toNatClampNeg))) ∧ vf_n64 (FP.dadd v1 (FP.ddiv (FP.l2d (S.AJ a4 v3.toNatClampNeg)) (FP.l2d (S.AJ a7 v3.toNatClampNeg)))) ∧ k26 S (FP.dadd v1 (FP.ddiv (FP.l2d (S.AJ a4 v3.toNatClampNeg)) (FP.l2d (S.AJ a7 v3.toNatClampNeg)))) (v3 + 1)))
set_option maxHeartbeats 4000000 in
set_option maxRecDepth 100000 in
theorem bX8_meanWorn_b26 {p : Program} {l : Launch} {e : Env} {s : State} {m : MethodId} {args : Array Value} {below : List Frame} {meth : Method} {c : Code} {G : Gw} {x0 : Nat} {Φ : Hp → UInt64 → Prop} (C0 : Mx p s m c cX8_meanWorn 4 args yX8_meanWorn.cls G) (Y : My meth (some .double)) {k26 : Hp → UInt64 → Int32 → Prop} (hk26 : ∀ (S : Hp) (v1 : UInt64) (v3 : Int32) (H : Heap) (locs : List Loc) (ls : Array Slot), k26 S v1 v3 → Ok G S H → va_S (Ab G.b) s.heap H locs → lv_has ls 4 [(0, .ref x0), (1, .double v1), (3, .int v3)] → W p l e rm_X8_meanWorn s m args below meth c H locs 0 0 (MQ below (gQ G (PD Φ)) args s rm_X8_meanWorn.cells rm_X8_meanWorn.slots (Ab G.b)) (F0 m 26 ls [])) : ∀ (S : Hp) (v1 : UInt64) (v3 : Int32) (H : Heap) (locs : List Loc) (ls : Array Slot), wX8_meanWorn_b26 x0 Φ k26 S v1 v3 → Ok G S H → va_S (Ab G.b) s.heap H locs → lv_has ls 4 [(0, .ref x0), (1, .double v1), (3, .int v3)] → W p l e rm_X8_meanWorn s m args below meth c H locs 0 0 (MQ below (gQ G (PD Φ)) args s rm_X8_meanWorn.cells rm_X8_meanWorn.slots (Ab G.b)) (F0 m 26 ls []) := by
  intro S v1 v3 H locs ls h hO hS hl
  unfold wX8_meanWorn_b26 at h
  refine lv_iload_n C0.1 C0.2.1 dX8_meanWorn_26 rfl (lv_at hl 2 rfl) ?_
  refine lv_aload_n C0.1 C0.2.1 dX8_meanWorn_27 rfl (lv_at hl 0 rfl) ?_
  obtain ⟨i1, h⟩ := h
  refine g8_32 C0 hO i1 tb_1360 dX8_meanWorn_28 ?_
  refine lv_icmp_ge (tgt := 58) C0.1 C0.2.1 dX8_meanWorn_31 (by decide) (fun c2 => ?_) (fun c2 => ?_)
  · have h := h.1 c2
    refine lv_dload_n C0.1 C0.2.1 dX8_meanWorn_58 rfl (lv_at hl 1 rfl) ?_
    refine lv_aload_n C0.1 C0.2.1 dX8_meanWorn_59 rfl (lv_at hl 0 rfl) ?_
    refine g8_32 C0 hO i1 tb_1360 dX8_meanWorn_60 ?_
    refine lv_i2d C0.1 C0.2.1 dX8_meanWorn_63 ?_
    obtain ⟨e3, h⟩ := h
    refine lv_ddiv C0.1 C0.2.1 dX8_meanWorn_64 e3 ?_
    exact e_D C0 Y hO hS h (Nat.le_refl _) (Nat.le_refl _) dX8_meanWorn_65
  · have h := h.2 c2
    refine lv_dload_n C0.1 C0.2.1 dX8_meanWorn_34 rfl (lv_at hl 1 rfl) ?_
    refine lv_aload_n C0.1 C0.2.1 dX8_meanWorn_35 rfl (lv_at hl 0 rfl) ?_
    obtain ⟨a4, ea4, h⟩ := h
    refine g8_19 C0 hO i1 ea4 tb_1347 dX8_meanWorn_36 ?_
    refine lv_iload_n C0.1 C0.2.1 dX8_meanWorn_39 rfl (lv_at hl 2 rfl) ?_
    obtain ⟨i5, h⟩ := h
    obtain ⟨e6, h⟩ := h
    refine r_lald C0 hO i5 e6 dX8_meanWorn_40 ?_
    refine lv_l2d C0.1 C0.2.1 dX8_meanWorn_41 ?_
    refine lv_aload_n C0.1 C0.2.1 dX8_meanWorn_42 rfl (lv_at hl 0 rfl) ?_
    obtain ⟨a7, ea7, h⟩ := h
    refine g8_20 C0 hO i1 ea7 tb_1348 dX8_meanWorn_43 ?_
    refine lv_iload_n C0.1 C0.2.1 dX8_meanWorn_46 rfl (lv_at hl 2 rfl) ?_
    obtain ⟨i8, h⟩ := h
    obtain ⟨e9, h⟩ := h
    refine r_lald C0 hO i8 e9 dX8_meanWorn_47 ?_
    refine lv_l2d C0.1 C0.2.1 dX8_meanWorn_48 ?_
    obtain ⟨e10, h⟩ := h
    refine lv_ddiv C0.1 C0.2.1 dX8_meanWorn_49 e10 ?_
    obtain ⟨e11, h⟩ := h
    refine lv_dadd C0.1 C0.2.1 dX8_meanWorn_50 e11 ?_
    refine lv_dstore_n C0.1 C0.2.1 dX8_meanWorn_51 rfl hl (by decide) rfl (fun ls hl => ?_)
    refine lv_iinc (v := _ + 1) C0.1 C0.2.1 dX8_meanWorn_52 hl (k := 2) rfl rfl (by decide) rfl (fun ls hl => ?_)
    refine lv_goto (tgt := 26) C0.1 C0.2.1 dX8_meanWorn_55 (by decide) ?_
    exact hk26 _ _ _ _ _ _ h hO hS (lv_sub hl [2, 1, 0] rfl)
set_option maxHeartbeats 4000000 in
set_option maxRecDepth 100000 in
theorem lX8_meanWorn_b26 {p : Program} {l : Launch} {e : Env} {s : State} {m : MethodId} {args : Array Value} {below : List Frame} {meth : Method} {c : Code} {G : Gw} {x0 : Nat} {Φ : Hp → UInt64 → Prop} (C0 : Mx p s m c cX8_meanWorn 4 args yX8_meanWorn.cls G) (Y : My meth (some .double))  : ∀ n9 : Nat, ∀ (S : Hp) (v1 : UInt64) (v3 : Int32) (H : Heap) (locs : List Loc) (ls : Array Slot), it3 (wX8_meanWorn_b26 x0 Φ) n9 S v1 v3 → Ok G S H → va_S (Ab G.b) s.heap H locs → lv_has ls 4 [(0, .ref x0), (1, .double v1), (3, .int v3)] → W p l e rm_X8_meanWorn s m args below meth c H locs 0 0 (MQ below (gQ G (PD Φ)) args s rm_X8_meanWorn.cells rm_X8_meanWorn.slots (Ab G.b)) (F0 m 26 ls []) := by
  intro n9
  induction n9 with
  | zero => intro S v1 v3 H locs ls h; exact (h : False).elim
  | succ n9 ih => intro S v1 v3 H locs ls h hO hS hl; exact bX8_meanWorn_b26 C0 Y ih S v1 v3 H locs ls h hO hS hl
def wX8_meanWorn_b13 (x0 : Nat) (Φ : Hp → UInt64 → Prop) (S : Hp) (z0 : Nat) (z1 : Int32) : Prop := isA S z0 8 ∧ wX8_isThrown S z0 z1 1 (fun S1 r2 => ((r2 = 0 → ∃ n, it3 (wX8_meanWorn_b26 x0 Φ) n S1 FP.dconst0 0) ∧ (¬ (r2 = 0) → Φ S1 FP.dconst0)))
set_option maxHeartbeats 4000000 in
set_option maxRecDepth 100000 in
theorem bX8_meanWorn_b13 {p : Program} {l : Launch} {e : Env} {s : State} {m : MethodId} {args : Array Value} {below : List Frame} {meth : Method} {c : Code} {G : Gw} {x0 : Nat} {Φ : Hp → UInt64 → Prop} (C0 : Mx p s m c cX8_meanWorn 4 args yX8_meanWorn.cls G) (Y : My meth (some .double))  : ∀ (S : Hp) (z0 : Nat) (z1 : Int32) (H : Heap) (locs : List Loc) (ls : Array Slot), wX8_meanWorn_b13 x0 Φ S z0 z1 → Ok G S H → va_S (Ab G.b) s.heap H locs → lv_has ls 4 [(0, .ref x0)] → W p l e rm_X8_meanWorn s m args below meth c H locs 0 0 (MQ below (gQ G (PD Φ)) args s rm_X8_meanWorn.cells rm_X8_meanWorn.slots (Ab G.b)) (F0 m 13 ls [.int z1, .ref z0]) := by
  intro S z0 z1 H locs ls h hO hS hl
  unfold wX8_meanWorn_b13 at h
  refine lv_iconst (v := 1) C0.1 C0.2.1 dX8_meanWorn_13 (by decide) ?_
  obtain ⟨i3, h⟩ := h
  refine c_V C0 hO hS (mX8_isThrown h) i3 (by decide) rfl rfl tb_1451 tb_1453 tb_37 tb_81 tb_1454 hd_X8_isThrown rfl ⟨⟨by decide, by decide⟩, by decide, by decide⟩ hl.1 rfl (Nat.le_of_ble_eq_true rfl) dX8_meanWorn_14 (kI (fun r2 S1 H locs h hO hS => ?_))
  refine lv_if_eq (tgt := 22) C0.1 C0.2.1 dX8_meanWorn_17 (by decide) (fun c4 => ?_) (fun c4 => ?_)
  · have h := h.1 c4
    refine lv_dconst0 C0.1 C0.2.1 dX8_meanWorn_22 ?_
    refine lv_dstore_n C0.1 C0.2.1 dX8_meanWorn_23 rfl hl (by decide) rfl (fun ls hl => ?_)
    refine lv_iconst (v := 0) C0.1 C0.2.1 dX8_meanWorn_24 (by decide) ?_
    refine lv_istore_n C0.1 C0.2.1 dX8_meanWorn_25 rfl hl (by decide) rfl (fun ls hl => ?_)
    obtain ⟨n9, h⟩ := h
    exact lX8_meanWorn_b26 C0 Y n9 _ _ _ _ _ _ h hO hS (lv_sub hl [2, 1, 0] rfl)
  · have h := h.2 c4
    refine lv_dconst0 C0.1 C0.2.1 dX8_meanWorn_20 ?_
    exact e_D C0 Y hO hS h (Nat.le_refl _) (Nat.le_refl _) dX8_meanWorn_21
def wX8_meanWorn_b0 (x0 : Nat) (Φ : Hp → UInt64 → Prop) (S : Hp) : Prop := isA S x0 8 ∧ ((¬ (S.FI 544 x0) = 0 → wX8_meanWorn_b13 x0 Φ S x0 0) ∧ ((S.FI 544 x0) = 0 → wX8_meanWorn_b13 x0 Φ S x0 1))
set_option maxHeartbeats 4000000 in
set_option maxRecDepth 100000 in
theorem bX8_meanWorn_b0 {p : Program} {l : Launch} {e : Env} {s : State} {m : MethodId} {args : Array Value} {below : List Frame} {meth : Method} {c : Code} {G : Gw} {x0 : Nat} {Φ : Hp → UInt64 → Prop} (C0 : Mx p s m c cX8_meanWorn 4 args yX8_meanWorn.cls G) (Y : My meth (some .double))  : ∀ (S : Hp) (H : Heap) (locs : List Loc) (ls : Array Slot), wX8_meanWorn_b0 x0 Φ S → Ok G S H → va_S (Ab G.b) s.heap H locs → lv_has ls 4 [(0, .ref x0)] → W p l e rm_X8_meanWorn s m args below meth c H locs 0 0 (MQ below (gQ G (PD Φ)) args s rm_X8_meanWorn.cells rm_X8_meanWorn.slots (Ab G.b)) (F0 m 0 ls []) := by
  intro S H locs ls h hO hS hl
  unfold wX8_meanWorn_b0 at h
  refine lv_aload_n C0.1 C0.2.1 dX8_meanWorn_0 rfl (lv_at hl 0 rfl) ?_
  refine lv_aload_n C0.1 C0.2.1 dX8_meanWorn_1 rfl (lv_at hl 0 rfl) ?_
  obtain ⟨i1, h⟩ := h
  refine g8_32 C0 hO i1 tb_1360 dX8_meanWorn_2 ?_
  refine lv_if_ne (tgt := 12) C0.1 C0.2.1 dX8_meanWorn_5 (by decide) (fun c2 => ?_) (fun c2 => ?_)
  · have h := h.1 c2
    refine lv_iconst (v := 0) C0.1 C0.2.1 dX8_meanWorn_12 (by decide) ?_
    exact bX8_meanWorn_b13 C0 Y _ _ _ _ _ _ h hO hS (lv_sub hl [0] rfl)
  · have h := h.2 c2
    refine lv_iconst (v := 1) C0.1 C0.2.1 dX8_meanWorn_8 (by decide) ?_
    refine lv_goto (tgt := 13) C0.1 C0.2.1 dX8_meanWorn_9 (by decide) ?_
    exact bX8_meanWorn_b13 C0 Y _ _ _ _ _ _ h hO hS (lv_sub hl [0] rfl)
def wX8_meanWorn (S : Hp) (x0 : Nat) (Φ : Hp → UInt64 → Prop) : Prop := wX8_meanWorn_b0 x0 Φ S
set_option maxRecDepth 100000 in
theorem mX8_meanWorn {l : Launch} {G : Gw} {S : Hp} {x0 : Nat} {Φ : Hp → UInt64 → Prop} (h : wX8_meanWorn S x0 Φ) : gM l yX8_meanWorn cX8_meanWorn 4 (some .double) rm_X8_meanWorn [.ref x0] G S (PD Φ) := by
  unfold gM
  refine Met.ofW (cc := cX8_meanWorn) (maxL := 4) (ret := (some .double)) (by decide) rfl ?_
  intro p e s m args below meth c s₁ B hml hv
  obtain ⟨rfl, hw⟩ := hv
  obtain ⟨C0, Y, hO⟩ := mx_of B hml hw
  have hS : va_S (Ab G.b) s.heap s.heap [] := va_S.rf
  have hl := lv_entry ([.ref x0]) (n := 4) (Nat.le_of_ble_eq_true rfl)
  rw [lg_entry_eq]
  generalize (lg_sl ([.ref x0]) ++ List.replicate (4 - (lg_sl ([.ref x0])).length) Slot.unset).toArray = ls at hl ⊢
  have hl : lv_has ls 4 [(0, .ref x0)] := hl
  exact bX8_meanWorn_b0 C0 Y S _ _ _ h hO hS hl

def rm_X8_isSound : Room := { frames := 0, cells := 0, slots := 0, locals := 0 }
def wX8_isSound_b0 (x0 : Nat) (Φ : Hp → Int32 → Prop) (S : Hp) : Prop := isA S x0 8 ∧ ∀ S2, S2 = S.setFI 549 x0 0 → Φ S2 1
set_option maxHeartbeats 4000000 in
set_option maxRecDepth 100000 in
theorem bX8_isSound_b0 {p : Program} {l : Launch} {e : Env} {s : State} {m : MethodId} {args : Array Value} {below : List Frame} {meth : Method} {c : Code} {G : Gw} {x0 : Nat} {Φ : Hp → Int32 → Prop} (C0 : Mx p s m c cX8_isSound 1 args yX8_isSound.cls G) (Y : My meth (some .boolean))  : ∀ (S : Hp) (H : Heap) (locs : List Loc) (ls : Array Slot), wX8_isSound_b0 x0 Φ S → Ok G S H → va_S (Ab G.b) s.heap H locs → lv_has ls 1 [(0, .ref x0)] → W p l e rm_X8_isSound s m args below meth c H locs 0 0 (MQ below (gQ G (PI Φ)) args s rm_X8_isSound.cells rm_X8_isSound.slots (Ab G.b)) (F0 m 0 ls []) := by
  intro S H locs ls h hO hS hl
  unfold wX8_isSound_b0 at h
  refine lv_aload_n C0.1 C0.2.1 dX8_isSound_0 rfl (lv_at hl 0 rfl) ?_
  refine lv_iconst (v := 0) C0.1 C0.2.1 dX8_isSound_1 (by decide) ?_
  obtain ⟨i1, h⟩ := h
  refine p8_37 C0 hO hS i1 tb_1365 dX8_isSound_2 (fun H locs hO hS => ?_)
  have h := h _ rfl
  refine lv_iconst (v := 1) C0.1 C0.2.1 dX8_isSound_5 (by decide) ?_
  exact e_Z C0 Y hO hS rfl h (Nat.le_refl _) (Nat.le_refl _) dX8_isSound_6
def wX8_isSound (S : Hp) (x0 : Nat) (Φ : Hp → Int32 → Prop) : Prop := wX8_isSound_b0 x0 Φ S
set_option maxRecDepth 100000 in
theorem mX8_isSound {l : Launch} {G : Gw} {S : Hp} {x0 : Nat} {Φ : Hp → Int32 → Prop} (h : wX8_isSound S x0 Φ) : gM l yX8_isSound cX8_isSound 1 (some .boolean) rm_X8_isSound [.ref x0] G S (PI Φ) := by
  unfold gM
  refine Met.ofW (cc := cX8_isSound) (maxL := 1) (ret := (some .boolean)) (by decide) rfl ?_
  intro p e s m args below meth c s₁ B hml hv
  obtain ⟨rfl, hw⟩ := hv
  obtain ⟨C0, Y, hO⟩ := mx_of B hml hw
  have hS : va_S (Ab G.b) s.heap s.heap [] := va_S.rf
  have hl := lv_entry ([.ref x0]) (n := 1) (Nat.le_of_ble_eq_true rfl)
  rw [lg_entry_eq]
  generalize (lg_sl ([.ref x0]) ++ List.replicate (1 - (lg_sl ([.ref x0])).length) Slot.unset).toArray = ls at hl ⊢
  have hl : lv_has ls 1 [(0, .ref x0)] := hl
  exact bX8_isSound_b0 C0 Y S _ _ _ h hO hS hl
