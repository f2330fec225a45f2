def rm_X8_turn : Room := { frames := 22, cells := 0, slots := 0, locals := 499 }
def wX8_turn_b131 (x0 : Nat) (x1 : Int32) (x2 : Int32) (Φ : Hp → Int32 → Prop) (k64 : Hp → Int32 → Prop) (S : Hp) (v3 : Int32) (z0 : Nat) (z1 : Int32) (z2 : Int32) : Prop := isA S z0 23 ∧ vp_in z1 (S.N z0) ∧ nb z2 ∧ ∀ S4, S4 = S.setAI z0 z1.toNatClampNeg z2 → k64 S4 (v3 + 1)
set_option maxHeartbeats 4000000 in
set_option maxRecDepth 100000 in
theorem bX8_turn_b131 {p : Program} {l : Launch} {e : Env} {s : State} {m : MethodId} {args : Array Value} {below : List Frame} {meth : Method} {c : Code} {G : Gw} {x0 : Nat} {x1 : Int32} {x2 : Int32} {Φ : Hp → Int32 → Prop} (C0 : Mx p s m c cX8_turn 5 args yX8_turn.cls G) (Y : My meth (some .int)) {k64 : Hp → Int32 → Prop} (hk64 : ∀ (S : Hp) (v3 : Int32) (H : Heap) (locs : List Loc) (ls : Array Slot), k64 S v3 → Ok G S H → va_S (Ab G.b) s.heap H locs → lv_has ls 5 [(0, .ref x0), (1, .int x1), (2, .int x2), (3, .int v3)] → W p l e rm_X8_turn s m args below meth c H locs 0 0 (MQ below (gQ G (PI Φ)) args s rm_X8_turn.cells rm_X8_turn.slots (Ab G.b)) (F0 m 64 ls [])) : ∀ (S : Hp) (v3 : Int32) (z0 : Nat) (z1 : Int32) (z2 : Int32) (H : Heap) (locs : List Loc) (ls : Array Slot), wX8_turn_b131 x0 x1 x2 Φ k64 S v3 z0 z1 z2 → Ok G S H → va_S (Ab G.b) s.heap H locs → lv_has ls 5 [(0, .ref x0), (1, .int x1), (2, .int x2), (3, .int v3)] → W p l e rm_X8_turn s m args below meth c H locs 0 0 (MQ below (gQ G (PI Φ)) args s rm_X8_turn.cells rm_X8_turn.slots (Ab G.b)) (F0 m 131 ls [.int z2, .int z1, .ref z0]) := by
  intro S v3 z0 z1 z2 H locs ls h hO hS hl
  unfold wX8_turn_b131 at h
  obtain ⟨i1, h⟩ := h
  obtain ⟨e2, h⟩ := h
  obtain ⟨e3, h⟩ := h
  refine r_zast C0 hO hS i1 e2 e3 dX8_turn_131 (fun H locs hO hS => ?_)
  have h := h _ rfl
  refine lv_iinc (v := _ + 1) C0.1 C0.2.1 dX8_turn_132 hl (k := 3) rfl rfl (by decide) rfl (fun ls hl => ?_)
  refine lv_goto (tgt := 64) C0.1 C0.2.1 dX8_turn_135 (by decide) ?_
  exact hk64 _ _ _ _ _ h hO hS (lv_sub hl [1, 2, 3, 0] rfl)
def wX8_turn_b130 (x0 : Nat) (x1 : Int32) (x2 : Int32) (Φ : Hp → Int32 → Prop) (k64 : Hp → Int32 → Prop) (S : Hp) (v3 : Int32) (z0 : Nat) (z1 : Int32) : Prop := wX8_turn_b131 x0 x1 x2 Φ k64 S v3 z0 z1 0
set_option maxHeartbeats 4000000 in
set_option maxRecDepth 100000 in
theorem bX8_turn_b130 {p : Program} {l : Launch} {e : Env} {s : State} {m : MethodId} {args : Array Value} {below : List Frame} {meth : Method} {c : Code} {G : Gw} {x0 : Nat} {x1 : Int32} {x2 : Int32} {Φ : Hp → Int32 → Prop} (C0 : Mx p s m c cX8_turn 5 args yX8_turn.cls G) (Y : My meth (some .int)) {k64 : Hp → Int32 → Prop} (hk64 : ∀ (S : Hp) (v3 : Int32) (H : Heap) (locs : List Loc) (ls : Array Slot), k64 S v3 → Ok G S H → va_S (Ab G.b) s.heap H locs → lv_has ls 5 [(0, .ref x0), (1, .int x1), (2, .int x2), (3, .int v3)] → W p l e rm_X8_turn s m args below meth c H locs 0 0 (MQ below (gQ G (PI Φ)) args s rm_X8_turn.cells rm_X8_turn.slots (Ab G.b)) (F0 m 64 ls [])) : ∀ (S : Hp) (v3 : Int32) (z0 : Nat) (z1 : Int32) (H : Heap) (locs : List Loc) (ls : Array Slot), wX8_turn_b130 x0 x1 x2 Φ k64 S v3 z0 z1 → Ok G S H → va_S (Ab G.b) s.heap H locs → lv_has ls 5 [(0, .ref x0), (1, .int x1), (2, .int x2), (3, .int v3)] → W p l e rm_X8_turn s m args below meth c H locs 0 0 (MQ below (gQ G (PI Φ)) args s rm_X8_turn.cells rm_X8_turn.slots (Ab G.b)) (F0 m 130 ls [.int z1, .ref z0]) := by
  intro S v3 z0 z1 H locs ls h hO hS hl
  unfold wX8_turn_b130 at h
  refine lv_iconst (v := 0) C0.1 C0.2.1 dX8_turn_130 (by decide) ?_
  exact bX8_turn_b131 C0 Y hk64 _ _ _ _ _ _ _ _ h hO hS (lv_sub hl [0, 1, 2, 3] rfl)
def wX8_turn_b159 (x0 : Nat) (x1 : Int32) (x2 : Int32) (Φ : Hp → Int32 → Prop) (k140 : Hp → Int32 → Prop) (S : Hp) (v3 : Int32) (z0 : Nat) (z1 : Int32) (z2 : Int32) : Prop := isA S z0 8 ∧ wX8_step S z0 z1 z2 (fun S1 => k140 S1 (v3 + 1))
set_option maxHeartbeats 4000000 in
set_option maxRecDepth 100000 in
theorem bX8_turn_b159 {p : Program} {l : Launch} {e : Env} {s : State} {m : MethodId} {args : Array Value} {below : List Frame} {meth : Method} {c : Code} {G : Gw} {x0 : Nat} {x1 : Int32} {x2 : Int32} {Φ : Hp → Int32 → Prop} (C0 : Mx p s m c cX8_turn 5 args yX8_turn.cls G) (Y : My meth (some .int)) {k140 : Hp → Int32 → Prop} (hk140 : ∀ (S : Hp) (v3 : Int32) (H : Heap) (locs : List Loc) (ls : Array Slot), k140 S v3 → Ok G S H → va_S (Ab G.b) s.heap H locs → lv_has ls 5 [(0, .ref x0), (1, .int x1), (2, .int x2), (3, .int v3)] → W p l e rm_X8_turn s m args below meth c H locs 0 0 (MQ below (gQ G (PI Φ)) args s rm_X8_turn.cells rm_X8_turn.slots (Ab G.b)) (F0 m 140 ls [])) : ∀ (S : Hp) (v3 : Int32) (z0 : Nat) (z1 : Int32) (z2 : Int32) (H : Heap) (locs : List Loc) (ls : Array Slot), wX8_turn_b159 x0 x1 x2 Φ k140 S v3 z0 z1 z2 → Ok G S H → va_S (Ab G.b) s.heap H locs → lv_has ls 5 [(0, .ref x0), (1, .int x1), (2, .int x2), (3, .int v3)] → W p l e rm_X8_turn s m args below meth c H locs 0 0 (MQ below (gQ G (PI Φ)) args s rm_X8_turn.cells rm_X8_turn.slots (Ab G.b)) (F0 m 159 ls [.int z2, .int z1, .ref z0]) := by
  intro S v3 z0 z1 z2 H locs ls h hO hS hl
  unfold wX8_turn_b159 at h
  obtain ⟨i2, h⟩ := h
  refine c_V C0 hO hS (mX8_step h) i2 (by decide) rfl rfl tb_1527 tb_1529 tb_47 tb_81 tb_1530 hd_X8_step rfl ⟨⟨by decide, by decide⟩, by decide, by decide⟩ hl.1 rfl (Nat.le_of_ble_eq_true rfl) dX8_turn_159 (kV (fun S1 H locs h hO hS => ?_))
  refine lv_iinc (v := _ + 1) C0.1 C0.2.1 dX8_turn_162 hl (k := 3) rfl rfl (by decide) rfl (fun ls hl => ?_)
  refine lv_goto (tgt := 140) C0.1 C0.2.1 dX8_turn_165 (by decide) ?_
  exact hk140 _ _ _ _ _ h hO hS (lv_sub hl [1, 2, 3, 0] rfl)
def wX8_turn_b223 (x0 : Nat) (x1 : Int32) (x2 : Int32) (Φ : Hp → Int32 → Prop) (k170 : Hp → Int32 → Prop) (S : Hp) (v3 : Int32) (z0 : Nat) (z1 : Int32) (z2 : Int32) (z3 : Int32) : Prop := isA S z0 23 ∧ vp_in z1 (S.N z0) ∧ nb (z2 ||| z3) ∧ ∀ S4, S4 = S.setAI z0 z1.toNatClampNeg (z2 ||| z3) → k170 S4 (v3 + 1)
set_option maxHeartbeats 4000000 in
set_option maxRecDepth 100000 in
theorem bX8_turn_b223 {p : Program} {l : Launch} {e : Env} {s : State} {m : MethodId} {args : Array Value} {below : List Frame} {meth : Method} {c : Code} {G : Gw} {x0 : Nat} {x1 : Int32} {x2 : Int32} {Φ : Hp → Int32 → Prop} (C0 : Mx p s m c cX8_turn 5 args yX8_turn.cls G) (Y : My meth (some .int)) {k170 : Hp → Int32 → Prop} (hk170 : ∀ (S : Hp) (v3 : Int32) (H : Heap) (locs : List Loc) (ls : Array Slot), k170 S v3 → Ok G S H → va_S (Ab G.b) s.heap H locs → lv_has ls 5 [(0, .ref x0), (1, .int x1), (2, .int x2), (3, .int v3)] → W p l e rm_X8_turn s m args below meth c H locs 0 0 (MQ below (gQ G (PI Φ)) args s rm_X8_turn.cells rm_X8_turn.slots (Ab G.b)) (F0 m 170 ls [])) : ∀ (S : Hp) (v3 : Int32) (z0 : Nat) (z1 : Int32) (z2 : Int32) (z3 : Int32) (H : Heap) (locs : List Loc) (ls : Array Slot), wX8_turn_b223 x0 x1 x2 Φ k170 S v3 z0 z1 z2 z3 → Ok G S H → va_S (Ab G.b) s.heap H locs → lv_has ls 5 [(0, .ref x0), (1, .int x1), (2, .int x2), (3, .int v3)] → W p l e rm_X8_turn s m args below meth c H locs 0 0 (MQ below (gQ G (PI Φ)) args s rm_X8_turn.cells rm_X8_turn.slots (Ab G.b)) (F0 m 223 ls [.int z3, .int z2, .int z1, .ref z0]) := by
  intro S v3 z0 z1 z2 z3 H locs ls h hO hS hl
  unfold wX8_turn_b223 at h
  refine lv_ior C0.1 C0.2.1 dX8_turn_223 ?_
  obtain ⟨i1, h⟩ := h
  obtain ⟨e2, h⟩ := h
  obtain ⟨e3, h⟩ := h
  refine r_zast C0 hO hS i1 e2 e3 dX8_turn_224 (fun H locs hO hS => ?_)
  have h := h _ rfl
  refine lv_iinc (v := _ + 1) C0.1 C0.2.1 dX8_turn_225 hl (k := 3) rfl rfl (by decide) rfl (fun ls hl => ?_)
  refine lv_goto (tgt := 170) C0.1 C0.2.1 dX8_turn_228 (by decide) ?_
  exact hk170 _ _ _ _ _ h hO hS (lv_sub hl [1, 2, 3, 0] rfl)
def wX8_turn_b222 (x0 : Nat) (x1 : Int32) (x2 : Int32) (Φ : Hp → Int32 → Prop) (k170 : Hp → Int32 → Prop) (S : Hp) (v3 : Int32) (z0 : Nat) (z1 : Int32) (z2 : Int32) : Prop := wX8_turn_b223 x0 x1 x2 Φ k170 S v3 z0 z1 z2 0
set_option maxHeartbeats 4000000 in
set_option maxRecDepth 100000 in
theorem bX8_turn_b222 {p : Program} {l : Launch} {e : Env} {s : State} {m : MethodId} {args : Array Value} {below : List Frame} {meth : Method} {c : Code} {G : Gw} {x0 : Nat} {x1 : Int32} {x2 : Int32} {Φ : Hp → Int32 → Prop} (C0 : Mx p s m c cX8_turn 5 args yX8_turn.cls G) (Y : My meth (some .int)) {k170 : Hp → Int32 → Prop} (hk170 : ∀ (S : Hp) (v3 : Int32) (H : Heap) (locs : List Loc) (ls : Array Slot), k170 S v3 → Ok G S H → va_S (Ab G.b) s.heap H locs → lv_has ls 5 [(0, .ref x0), (1, .int x1), (2, .int x2), (3, .int v3)] → W p l e rm_X8_turn s m args below meth c H locs 0 0 (MQ below (gQ G (PI Φ)) args s rm_X8_turn.cells rm_X8_turn.slots (Ab G.b)) (F0 m 170 ls [])) : ∀ (S : Hp) (v3 : Int32) (z0 : Nat) (z1 : Int32) (z2 : Int32) (H : Heap) (locs : List Loc) (ls : Array Slot), wX8_turn_b222 x0 x1 x2 Φ k170 S v3 z0 z1 z2 → Ok G S H → va_S (Ab G.b) s.heap H locs → lv_has ls 5 [(0, .ref x0), (1, .int x1), (2, .int x2), (3, .int v3)] → W p l e rm_X8_turn s m args below meth c H locs 0 0 (MQ below (gQ G (PI Φ)) args s rm_X8_turn.cells rm_X8_turn.slots (Ab G.b)) (F0 m 222 ls [.int z2, .int z1, .ref z0]) := by
  intro S v3 z0 z1 z2 H locs ls h hO hS hl
  unfold wX8_turn_b222 at h
  refine lv_iconst (v := 0) C0.1 C0.2.1 dX8_turn_222 (by decide) ?_
  exact bX8_turn_b223 C0 Y hk170 _ _ _ _ _ _ _ _ _ h hO hS (lv_sub hl [0, 1, 2, 3] rfl)
def wX8_turn_b287 (x0 : Nat) (x1 : Int32) (x2 : Int32) (Φ : Hp → Int32 → Prop) (k236 : Hp → Int32 → Int32 → Prop) (S : Hp) (v4 : Int32) (z0 : Int32) (z1 : Int32) : Prop := k236 S (z0 + z1) (v4 + 1)
set_option maxHeartbeats 4000000 in
set_option maxRecDepth 100000 in
theorem bX8_turn_b287 {p : Program} {l : Launch} {e : Env} {s : State} {m : MethodId} {args : Array Value} {below : List Frame} {meth : Method} {c : Code} {G : Gw} {x0 : Nat} {x1 : Int32} {x2 : Int32} {Φ : Hp → Int32 → Prop} (C0 : Mx p s m c cX8_turn 5 args yX8_turn.cls G) (Y : My meth (some .int)) {k236 : Hp → Int32 → Int32 → Prop} (hk236 : ∀ (S : Hp) (v3 : Int32) (v4 : Int32) (H : Heap) (locs : List Loc) (ls : Array Slot), k236 S v3 v4 → Ok G S H → va_S (Ab G.b) s.heap H locs → lv_has ls 5 [(0, .ref x0), (1, .int x1), (2, .int x2), (3, .int v3), (4, .int v4)] → W p l e rm_X8_turn s m args below meth c H locs 0 0 (MQ below (gQ G (PI Φ)) args s rm_X8_turn.cells rm_X8_turn.slots (Ab G.b)) (F0 m 236 ls [])) : ∀ (S : Hp) (v4 : Int32) (z0 : Int32) (z1 : Int32) (H : Heap) (locs : List Loc) (ls : Array Slot), wX8_turn_b287 x0 x1 x2 Φ k236 S v4 z0 z1 → Ok G S H → va_S (Ab G.b) s.heap H locs → lv_has ls 5 [(0, .ref x0), (1, .int x1), (2, .int x2), (4, .int v4)] → W p l e rm_X8_turn s m args below meth c H locs 0 0 (MQ below (gQ G (PI Φ)) args s rm_X8_turn.cells rm_X8_turn.slots (Ab G.b)) (F0 m 287 ls [.int z1, .int z0]) := by
  intro S v4 z0 z1 H locs ls h hO hS hl
  unfold wX8_turn_b287 at h
  refine lv_iadd C0.1 C0.2.1 dX8_turn_287 ?_
  refine lv_istore_n C0.1 C0.2.1 dX8_turn_288 rfl hl (by decide) rfl (fun ls hl => ?_)
  refine lv_iinc (v := _ + 1) C0.1 C0.2.1 dX8_turn_289 hl (k := 4) rfl rfl (by decide) rfl (fun ls hl => ?_)
  refine lv_goto (tgt := 236) C0.1 C0.2.1 dX8_turn_292 (by decide) ?_
  exact hk236 _ _ _ _ _ _ h hO hS (lv_sub hl [2, 3, 4, 1, 0] rfl)
def wX8_turn_b286 (x0 : Nat) (x1 : Int32) (x2 : Int32) (Φ : Hp → Int32 → Prop) (k236 : Hp → Int32 → Int32 → Prop) (S : Hp) (v4 : Int32) (z0 : Int32) : Prop := wX8_turn_b287 x0 x1 x2 Φ k236 S v4 z0 1
set_option maxHeartbeats 4000000 in
set_option maxRecDepth 100000 in
theorem bX8_turn_b286 {p : Program} {l : Launch} {e : Env} {s : State} {m : MethodId} {args : Array Value} {below : List Frame} {meth : Method} {c : Code} {G : Gw} {x0 : Nat} {x1 : Int32} {x2 : Int32} {Φ : Hp → Int32 → Prop} (C0 : Mx p s m c cX8_turn 5 args yX8_turn.cls G) (Y : My meth (some .int)) {k236 : Hp → Int32 → Int32 → Prop} (hk236 : ∀ (S : Hp) (v3 : Int32) (v4 : Int32) (H : Heap) (locs : List Loc) (ls : Array Slot), k236 S v3 v4 → Ok G S H → va_S (Ab G.b) s.heap H locs → lv_has ls 5 [(0, .ref x0), (1, .int x1), (2, .int x2), (3, .int v3), (4, .int v4)] → W p l e rm_X8_turn s m args below meth c H locs 0 0 (MQ below (gQ G (PI Φ)) args s rm_X8_turn.cells rm_X8_turn.slots (Ab G.b)) (F0 m 236 ls [])) : ∀ (S : Hp) (v4 : Int32) (z0 : Int32) (H : Heap) (locs : List Loc) (ls : Array Slot), wX8_turn_b286 x0 x1 x2 Φ k236 S v4 z0 → Ok G S H → va_S (Ab G.b) s.heap H locs → lv_has ls 5 [(0, .ref x0), (1, .int x1), (2, .int x2), (4, .int v4)] → W p l e rm_X8_turn s m args below meth c H locs 0 0 (MQ below (gQ G (PI Φ)) args s rm_X8_turn.cells rm_X8_turn.slots (Ab G.b)) (F0 m 286 ls [.int z0]) := by
  intro S v4 z0 H locs ls h hO hS hl
  unfold wX8_turn_b286 at h
  refine lv_iconst (v := 1) C0.1 C0.2.1 dX8_turn_286 (by decide) ?_
  exact bX8_turn_b287 C0 Y hk236 _ _ _ _ _ _ _ h hO hS (lv_sub hl [0, 1, 2, 3] rfl)
def wX8_turn_b236 (x0 : Nat) (x1 : Int32) (x2 : Int32) (Φ : Hp → Int32 → Prop) (k236 : Hp → Int32 → Int32 → Prop) (S : Hp) (v3 : Int32) (v4 : Int32) : Prop := isA S x0 8 ∧ (((S.FI 543 x0) ≤ v4 → Φ S v3) ∧ (¬ ((S.FI 543 x0) ≤ v4) → ∃ a3, S.FR 512 x0 = some a3 ∧ isA S a3 22 ∧ vp_in v4 (S.N a3) ∧ ∃ a6, S.FR 516 x0 = some a6 ∧ isA S a6 22 ∧ vp_in v4 (S.N a6) ∧ ((¬ (lg_cmp (S.AJ a3 v4.toNatClampNeg) (S.AJ a6 v4.toNatClampNeg)) = 0 → wX8_turn_b286 x0 x1 x2 Φ k236 S v4 v3) ∧ ((lg_cmp (S.AJ a3 v4.toNatClampNeg) (S.AJ a6 v4.toNatClampNeg)) = 0 → ∃ a10, S.FR 513 x0 = some a10 ∧ isA S a10 22 ∧ vp_in v4 (S.N a10) ∧ ∃ a13, S.FR 517 x0 = some a13 ∧ isA S a13 22 ∧ vp_in v4 (S.N a13) ∧ ((¬ (lg_cmp (S.AJ a10 v4.toNatClampNeg) (S.AJ a13 v4.toNatClampNeg)) = 0 → wX8_turn_b286 x0 x1 x2 Φ k236 S v4 v3) ∧ ((lg_cmp (S.AJ a10 v4.toNatClampNeg) (S.AJ a13 v4.toNatClampNeg)) = 0 → wX8_turn_b287 x0 x1 x2 Φ k236 S v4 v3 0))))))
set_option maxHeartbeats 4000000 in
set_option maxRecDepth 100000 in
theorem bX8_turn_b236 {p : Program} {l : Launch} {e : Env} {s : State} {m : MethodId} {args : Array Value} {below : List Frame} {meth : Method} {c : Code} {G : Gw} {x0 : Nat} {x1 : Int32} {x2 : Int32} {Φ : Hp → Int32 → Prop} (C0 : Mx p s m c cX8_turn 5 args yX8_turn.cls G) (Y : My meth (some .int)) {k236 : Hp → Int32 → Int32 → Prop} (hk236 : ∀ (S : Hp) (v3 : Int32) (v4 : Int32) (H : Heap) (locs : List Loc) (ls : Array Slot), k236 S v3 v4 → Ok G S H → va_S (Ab G.b) s.heap H locs → lv_has ls 5 [(0, .ref x0), (1, .int x1), (2, .int x2), (3, .int v3), (4, .int v4)] → W p l e rm_X8_turn s m args below meth c H locs 0 0 (MQ below (gQ G (PI Φ)) args s rm_X8_turn.cells rm_X8_turn.slots (Ab G.b)) (F0 m 236 ls [])) : ∀ (S : Hp) (v3 : Int32) (v4 : Int32) (H : Heap) (locs : List Loc) (ls : Array Slot), wX8_turn_b236 x0 x1 x2 Φ k236 S v3 v4 → Ok G S H → va_S (Ab G.b) s.heap H locs → lv_has ls 5 [(0, .ref x0), (1, .int x1), (2, .int x2), (3, .int v3), (4, .int v4)] → W p l e rm_X8_turn s m args below meth c H locs 0 0 (MQ below (gQ G (PI Φ)) args s rm_X8_turn.cells rm_X8_turn.slots (Ab G.b)) (F0 m 236 ls []) := by
  intro S v3 v4 H locs ls h hO hS hl
  unfold wX8_turn_b236 at h
  refine lv_iload C0.1 C0.2.1 dX8_turn_236 (lv_at hl 4 rfl) ?_
  refine lv_aload_n C0.1 C0.2.1 dX8_turn_238 rfl (lv_at hl 0 rfl) ?_
  obtain ⟨i1, h⟩ := h
  refine g8_31 C0 hO i1 tb_1359 dX8_turn_239 ?_
  refine lv_icmp_ge (tgt := 295) C0.1 C0.2.1 dX8_turn_242 (by decide) (fun c2 => ?_) (fun c2 => ?_)
  · have h := h.1 c2
    refine lv_iload_n C0.1 C0.2.1 dX8_turn_295 rfl (lv_at hl 3 rfl) ?_
    exact e_I C0 Y hO hS h (Nat.le_refl _) (Nat.le_refl _) dX8_turn_296
  · have h := h.2 c2
    refine lv_iload_n C0.1 C0.2.1 dX8_turn_245 rfl (lv_at hl 3 rfl) ?_
    refine lv_aload_n C0.1 C0.2.1 dX8_turn_246 rfl (lv_at hl 0 rfl) ?_
    obtain ⟨a3, ea3, h⟩ := h
    refine g8_0 C0 hO i1 ea3 tb_1328 dX8_turn_247 ?_
    refine lv_iload C0.1 C0.2.1 dX8_turn_250 (lv_at hl 4 rfl) ?_
    obtain ⟨i4, h⟩ := h
    obtain ⟨e5, h⟩ := h
    refine r_lald C0 hO i4 e5 dX8_turn_252 ?_
    refine lv_aload_n C0.1 C0.2.1 dX8_turn_253 rfl (lv_at hl 0 rfl) ?_
    obtain ⟨a6, ea6, h⟩ := h
    refine g8_4 C0 hO i1 ea6 tb_1332 dX8_turn_254 ?_
    refine lv_iload C0.1 C0.2.1 dX8_turn_257 (lv_at hl 4 rfl) ?_
    obtain ⟨i7, h⟩ := h
    obtain ⟨e8, h⟩ := h
    refine r_lald C0 hO i7 e8 dX8_turn_259 ?_
    refine W.lcmp C0.1 C0.2.1 dX8_turn_260 ?_
    refine lv_if_ne (tgt := 286) C0.1 C0.2.1 dX8_turn_261 (by decide) (fun c9 => ?_) (fun c9 => ?_)
    · have h := h.1 c9
      exact bX8_turn_b286 C0 Y hk236 _ _ _ _ _ _ h hO hS (lv_sub hl [0, 1, 2, 4] rfl)
    · have h := h.2 c9
      refine lv_aload_n C0.1 C0.2.1 dX8_turn_264 rfl (lv_at hl 0 rfl) ?_
      obtain ⟨a10, ea10, h⟩ := h
      refine g8_1 C0 hO i1 ea10 tb_1329 dX8_turn_265 ?_
      refine lv_iload C0.1 C0.2.1 dX8_turn_268 (lv_at hl 4 rfl) ?_
      obtain ⟨i11, h⟩ := h
      obtain ⟨e12, h⟩ := h
      refine r_lald C0 hO i11 e12 dX8_turn_270 ?_
      refine lv_aload_n C0.1 C0.2.1 dX8_turn_271 rfl (lv_at hl 0 rfl) ?_
      obtain ⟨a13, ea13, h⟩ := h
      refine g8_5 C0 hO i1 ea13 tb_1333 dX8_turn_272 ?_
      refine lv_iload C0.1 C0.2.1 dX8_turn_275 (lv_at hl 4 rfl) ?_
      obtain ⟨i14, h⟩ := h
      obtain ⟨e15, h⟩ := h
      refine r_lald C0 hO i14 e15 dX8_turn_277 ?_
      refine W.lcmp C0.1 C0.2.1 dX8_turn_278 ?_
      refine lv_if_ne (tgt := 286) C0.1 C0.2.1 dX8_turn_279 (by decide) (fun c16 => ?_) (fun c16 => ?_)
      · have h := h.1 c16
        exact bX8_turn_b286 C0 Y hk236 _ _ _ _ _ _ h hO hS (lv_sub hl [0, 1, 2, 4] rfl)
      · have h := h.2 c16
        refine lv_iconst (v := 0) C0.1 C0.2.1 dX8_turn_282 (by decide) ?_
        refine lv_goto (tgt := 287) C0.1 C0.2.1 dX8_turn_283 (by decide) ?_
        exact bX8_turn_b287 C0 Y hk236 _ _ _ _ _ _ _ h hO hS (lv_sub hl [0, 1, 2, 4] rfl)
set_option maxHeartbeats 4000000 in
set_option maxRecDepth 100000 in
theorem lX8_turn_b236 {p : Program} {l : Launch} {e : Env} {s : State} {m : MethodId} {args : Array Value} {below : List Frame} {meth : Method} {c : Code} {G : Gw} {x0 : Nat} {x1 : Int32} {x2 : Int32} {Φ : Hp → Int32 → Prop} (C0 : Mx p s m c cX8_turn 5 args yX8_turn.cls G) (Y : My meth (some .int))  : ∀ n9 : Nat, ∀ (S : Hp) (v3 : Int32) (v4 : Int32) (H : Heap) (locs : List Loc) (ls : Array Slot), it3 (wX8_turn_b236 x0 x1 x2 Φ) n9 S v3 v4 → Ok G S H → va_S (Ab G.b) s.heap H locs → lv_has ls 5 [(0, .ref x0), (1, .int x1), (2, .int x2), (3, .int v3), (4, .int v4)] → W p l e rm_X8_turn s m args below meth c H locs 0 0 (MQ below (gQ G (PI Φ)) args s rm_X8_turn.cells rm_X8_turn.slots (Ab G.b)) (F0 m 236 ls []) := by
  intro n9
  induction n9 with
  | zero => intro S v3 v4 H locs ls h; exact (h : False).elim
  | succ n9 ih => intro S v3 v4 H locs ls h hO hS hl; exact bX8_turn_b236 C0 Y ih S v3 v4 H locs ls h hO hS hl
def wX8_turn_b170 (x0 : Nat) (x1 : Int32) (x2 : Int32) (Φ : Hp → Int32 → Prop) (k170 : Hp → Int32 → Prop) (S : Hp) (v3 : Int32) : Prop := isA S x0 8 ∧ (((S.FI 544 x0) ≤ v3 → ∃ n, it3 (wX8_turn_b236 x0 x1 x2 Φ) n S 0 0) ∧ (¬ ((S.FI 544 x0) ≤ v3) → ∃ a3, S.FR 528 x0 = some a3 ∧ isA S a3 23 ∧ vp_in v3 (S.N a3) ∧ ∃ a6, S.FR 529 x0 = some a6 ∧ isA S a6 21 ∧ vp_in v3 (S.N a6) ∧ (((S.AI a6 v3.toNatClampNeg) ≤ 0 → wX8_turn_b222 x0 x1 x2 Φ k170 S v3 a3 v3 (S.AI a3 v3.toNatClampNeg)) ∧ (¬ ((S.AI a6 v3.toNatClampNeg) ≤ 0) → ∃ a10, S.FR 531 x0 = some a10 ∧ isA S a10 22 ∧ vp_in v3 (S.N a10) ∧ ∃ a13, S.FR 529 x0 = some a13 ∧ isA S a13 21 ∧ vp_in v3 (S.N a13) ∧ ∃ a16, S.FR 532 x0 = some a16 ∧ isA S a16 22 ∧ vp_in v3 (S.N a16) ∧ (((lg_cmp (S.AJ a10 v3.toNatClampNeg) (((S.AI a13 v3.toNatClampNeg).toInt64) * (S.AJ a16 v3.toNatClampNeg))) ≤ 0 → wX8_turn_b222 x0 x1 x2 Φ k170 S v3 a3 v3 (S.AI a3 v3.toNatClampNeg)) ∧ (¬ ((lg_cmp (S.AJ a10 v3.toNatClampNeg) (((S.AI a13 v3.toNatClampNeg).toInt64) * (S.AJ a16 v3.toNatClampNeg))) ≤ 0) → wX8_turn_b223 x0 x1 x2 Φ k170 S v3 a3 v3 (S.AI a3 v3.toNatClampNeg) 1))))))
set_option maxHeartbeats 4000000 in
set_option maxRecDepth 100000 in
theorem bX8_turn_b170 {p : Program} {l : Launch} {e : Env} {s : State} {m : MethodId} {args : Array Value} {below : List Frame} {meth : Method} {c : Code} {G : Gw} {x0 : Nat} {x1 : Int32} {x2 : Int32} {Φ : Hp → Int32 → Prop} (C0 : Mx p s m c cX8_turn 5 args yX8_turn.cls G) (Y : My meth (some .int)) {k170 : Hp → Int32 → Prop} (hk170 : ∀ (S : Hp) (v3 : Int32) (H : Heap) (locs : List Loc) (ls : Array Slot), k170 S v3 → Ok G S H → va_S (Ab G.b) s.heap H locs → lv_has ls 5 [(0, .ref x0), (1, .int x1), (2, .int x2), (3, .int v3)] → W p l e rm_X8_turn s m args below meth c H locs 0 0 (MQ below (gQ G (PI Φ)) args s rm_X8_turn.cells rm_X8_turn.slots (Ab G.b)) (F0 m 170 ls [])) : ∀ (S : Hp) (v3 : Int32) (H : Heap) (locs : List Loc) (ls : Array Slot), wX8_turn_b170 x0 x1 x2 Φ k170 S v3 → Ok G S H → va_S (Ab G.b) s.heap H locs → lv_has ls 5 [(0, .ref x0), (1, .int x1), (2, .int x2), (3, .int v3)] → W p l e rm_X8_turn s m args below meth c H locs 0 0 (MQ below (gQ G (PI Φ)) args s rm_X8_turn.cells rm_X8_turn.slots (Ab G.b)) (F0 m 170 ls []) := by
  intro S v3 H locs ls h hO hS hl
  unfold wX8_turn_b170 at h
  refine lv_iload_n C0.1 C0.2.1 dX8_turn_170 rfl (lv_at hl 3 rfl) ?_
  refine lv_aload_n C0.1 C0.2.1 dX8_turn_171 rfl (lv_at hl 0 rfl) ?_
  obtain ⟨i1, h⟩ := h
  refine g8_32 C0 hO i1 tb_1360 dX8_turn_172 ?_
  refine lv_icmp_ge (tgt := 231) C0.1 C0.2.1 dX8_turn_175 (by decide) (fun c2 => ?_) (fun c2 => ?_)
  · have h := h.1 c2
    refine lv_iconst (v := 0) C0.1 C0.2.1 dX8_turn_231 (by decide) ?_
    refine lv_istore_n C0.1 C0.2.1 dX8_turn_232 rfl hl (by decide) rfl (fun ls hl => ?_)
    refine lv_iconst (v := 0) C0.1 C0.2.1 dX8_turn_233 (by decide) ?_
    refine lv_istore C0.1 C0.2.1 dX8_turn_234 hl (by decide) rfl (fun ls hl => ?_)
    obtain ⟨n9, h⟩ := h
    exact lX8_turn_b236 C0 Y n9 _ _ _ _ _ _ h hO hS (lv_sub hl [2, 3, 4, 1, 0] rfl)
  · have h := h.2 c2
    refine lv_aload_n C0.1 C0.2.1 dX8_turn_178 rfl (lv_at hl 0 rfl) ?_
    obtain ⟨a3, ea3, h⟩ := h
    refine g8_16 C0 hO i1 ea3 tb_1344 dX8_turn_179 ?_
    refine lv_iload_n C0.1 C0.2.1 dX8_turn_182 rfl (lv_at hl 3 rfl) ?_
    refine lv_dup2_11 C0.1 C0.2.1 dX8_turn_183 rfl rfl ?_
    obtain ⟨i4, h⟩ := h
    obtain ⟨e5, h⟩ := h
    refine r_zald C0 hO i4 e5 dX8_turn_184 ?_
    refine lv_aload_n C0.1 C0.2.1 dX8_turn_185 rfl (lv_at hl 0 rfl) ?_
    obtain ⟨a6, ea6, h⟩ := h
    refine g8_17 C0 hO i1 ea6 tb_1345 dX8_turn_186 ?_
    refine lv_iload_n C0.1 C0.2.1 dX8_turn_189 rfl (lv_at hl 3 rfl) ?_
    obtain ⟨i7, h⟩ := h
    obtain ⟨e8, h⟩ := h
    refine r_iald C0 hO i7 e8 dX8_turn_190 ?_
    refine lv_if_le (tgt := 222) C0.1 C0.2.1 dX8_turn_191 (by decide) (fun c9 => ?_) (fun c9 => ?_)
    · have h := h.1 c9
      exact bX8_turn_b222 C0 Y hk170 _ _ _ _ _ _ _ _ h hO hS (lv_sub hl [0, 1, 2, 3] rfl)
    · have h := h.2 c9
      refine lv_aload_n C0.1 C0.2.1 dX8_turn_194 rfl (lv_at hl 0 rfl) ?_
      obtain ⟨a10, ea10, h⟩ := h
      refine g8_19 C0 hO i1 ea10 tb_1347 dX8_turn_195 ?_
      refine lv_iload_n C0.1 C0.2.1 dX8_turn_198 rfl (lv_at hl 3 rfl) ?_
      obtain ⟨i11, h⟩ := h
      obtain ⟨e12, h⟩ := h
      refine r_lald C0 hO i11 e12 dX8_turn_199 ?_
      refine lv_aload_n C0.1 C0.2.1 dX8_turn_200 rfl (lv_at hl 0 rfl) ?_
      obtain ⟨a13, ea13, h⟩ := h
      refine g8_17 C0 hO i1 ea13 tb_1345 dX8_turn_201 ?_
      refine lv_iload_n C0.1 C0.2.1 dX8_turn_204 rfl (lv_at hl 3 rfl) ?_
      obtain ⟨i14, h⟩ := h
      obtain ⟨e15, h⟩ := h
      refine r_iald C0 hO i14 e15 dX8_turn_205 ?_
      refine lv_i2l C0.1 C0.2.1 dX8_turn_206 rfl ?_
      refine lv_aload_n C0.1 C0.2.1 dX8_turn_207 rfl (lv_at hl 0 rfl) ?_
      obtain ⟨a16, ea16, h⟩ := h
      refine g8_20 C0 hO i1 ea16 tb_1348 dX8_turn_208 ?_
      refine lv_iload_n C0.1 C0.2.1 dX8_turn_211 rfl (lv_at hl 3 rfl) ?_
      obtain ⟨i17, h⟩ := h
      obtain ⟨e18, h⟩ := h
      refine r_lald C0 hO i17 e18 dX8_turn_212 ?_
      refine lv_lmul C0.1 C0.2.1 dX8_turn_213 ?_
      refine W.lcmp C0.1 C0.2.1 dX8_turn_214 ?_
      refine lv_if_le (tgt := 222) C0.1 C0.2.1 dX8_turn_215 (by decide) (fun c19 => ?_) (fun c19 => ?_)
      · have h := h.1 c19
        exact bX8_turn_b222 C0 Y hk170 _ _ _ _ _ _ _ _ h hO hS (lv_sub hl [0, 1, 2, 3] rfl)
      · have h := h.2 c19
        refine lv_iconst (v := 1) C0.1 C0.2.1 dX8_turn_218 (by decide) ?_
        refine lv_goto (tgt := 223) C0.1 C0.2.1 dX8_turn_219 (by decide) ?_
        exact bX8_turn_b223 C0 Y hk170 _ _ _ _ _ _ _ _ _ h hO hS (lv_sub hl [0, 1, 2, 3] rfl)
set_option maxHeartbeats 4000000 in
set_option maxRecDepth 100000 in
theorem lX8_turn_b170 {p : Program} {l : Launch} {e : Env} {s : State} {m : MethodId} {args : Array Value} {below : List Frame} {meth : Method} {c : Code} {G : Gw} {x0 : Nat} {x1 : Int32} {x2 : Int32} {Φ : Hp → Int32 → Prop} (C0 : Mx p s m c cX8_turn 5 args yX8_turn.cls G) (Y : My meth (some .int))  : ∀ n9 : Nat, ∀ (S : Hp) (v3 : Int32) (H : Heap) (locs : List Loc) (ls : Array Slot), it2 (wX8_turn_b170 x0 x1 x2 Φ) n9 S v3 → Ok G S H → va_S (Ab G.b) s.heap H locs → lv_has ls 5 [(0, .ref x0), (1, .int x1), (2, .int x2), (3, .int v3)] → W p l e rm_X8_turn s m args below meth c H locs 0 0 (MQ below (gQ G (PI Φ)) args s rm_X8_turn.cells rm_X8_turn.slots (Ab G.b)) (F0 m 170 ls []) := by
  intro n9
  induction n9 with
  | zero => intro S v3 H locs ls h; exact (h : False).elim
  | succ n9 ih => intro S v3 H locs ls h hO hS hl; exact bX8_turn_b170 C0 Y ih S v3 H locs ls h hO hS hl
def wX8_turn_b140 (x0 : Nat) (x1 : Int32) (x2 : Int32) (Φ : Hp → Int32 → Prop) (k140 : Hp → Int32 → Prop) (S : Hp) (v3 : Int32) : Prop := (((if 0 ≤ x2 then x2 else 0 - x2) ≤ v3 → ∃ n, it2 (wX8_turn_b170 x0 x1 x2 Φ) n S 0) ∧ (¬ ((if 0 ≤ x2 then x2 else 0 - x2) ≤ v3) → ((0 ≤ x2 → wX8_turn_b159 x0 x1 x2 Φ k140 S v3 x0 x1 1) ∧ (¬ (0 ≤ x2) → wX8_turn_b159 x0 x1 x2 Φ k140 S v3 x0 x1 (-1)))))
set_option maxHeartbeats 4000000 in
set_option maxRecDepth 100000 in
theorem bX8_turn_b140 {p : Program} {l : Launch} {e : Env} {s : State} {m : MethodId} {args : Array Value} {below : List Frame} {meth : Method} {c : Code} {G : Gw} {x0 : Nat} {x1 : Int32} {x2 : Int32} {Φ : Hp → Int32 → Prop} (C0 : Mx p s m c cX8_turn 5 args yX8_turn.cls G) (Y : My meth (some .int)) {k140 : Hp → Int32 → Prop} (hk140 : ∀ (S : Hp) (v3 : Int32) (H : Heap) (locs : List Loc) (ls : Array Slot), k140 S v3 → Ok G S H → va_S (Ab G.b) s.heap H locs → lv_has ls 5 [(0, .ref x0), (1, .int x1), (2, .int x2), (3, .int v3)] → W p l e rm_X8_turn s m args below meth c H locs 0 0 (MQ below (gQ G (PI Φ)) args s rm_X8_turn.cells rm_X8_turn.slots (Ab G.b)) (F0 m 140 ls [])) : ∀ (S : Hp) (v3 : Int32) (H : Heap) (locs : List Loc) (ls : Array Slot), wX8_turn_b140 x0 x1 x2 Φ k140 S v3 → Ok G S H → va_S (Ab G.b) s.heap H locs → lv_has ls 5 [(0, .ref x0), (1, .int x1), (2, .int x2), (3, .int v3)] → W p l e rm_X8_turn s m args below meth c H locs 0 0 (MQ below (gQ G (PI Φ)) args s rm_X8_turn.cells rm_X8_turn.slots (Ab G.b)) (F0 m 140 ls []) := by
  intro S v3 H locs ls h hO hS hl
  unfold wX8_turn_b140 at h
  refine lv_iload_n C0.1 C0.2.1 dX8_turn_140 rfl (lv_at hl 3 rfl) ?_
  refine lv_iload_n C0.1 C0.2.1 dX8_turn_141 rfl (lv_at hl 2 rfl) ?_
  refine va_mabs C0.1 C0.2.1 (C0.2.2.1.trans hl.1.symm) C0.2.2.2.1 (C0.2.2.2.2.1 _ tb_1526) (C0.2.2.2.2.1 _ tb_303) (C0.2.2.2.2.1 _ tb_94) (C0.2.2.2.2.1 _ tb_304) (Nat.le_of_ble_eq_true rfl) (Nat.le_of_ble_eq_true rfl) (by decide) (by decide) dX8_turn_142 ?_
  refine lv_icmp_ge (tgt := 168) C0.1 C0.2.1 dX8_turn_145 (by decide) (fun c1 => ?_) (fun c1 => ?_)
  · have h := h.1 c1
    refine lv_iconst (v := 0) C0.1 C0.2.1 dX8_turn_168 (by decide) ?_
    refine lv_istore_n C0.1 C0.2.1 dX8_turn_169 rfl hl (by decide) rfl (fun ls hl => ?_)
    obtain ⟨n9, h⟩ := h
    exact lX8_turn_b170 C0 Y n9 _ _ _ _ _ h hO hS (lv_sub hl [1, 2, 3, 0] rfl)
  · have h := h.2 c1
    refine lv_aload_n C0.1 C0.2.1 dX8_turn_148 rfl (lv_at hl 0 rfl) ?_
    refine lv_iload_n C0.1 C0.2.1 dX8_turn_149 rfl (lv_at hl 1 rfl) ?_
    refine lv_iload_n C0.1 C0.2.1 dX8_turn_150 rfl (lv_at hl 2 rfl) ?_
    refine lv_if_ge (tgt := 158) C0.1 C0.2.1 dX8_turn_151 (by decide) (fun c2 => ?_) (fun c2 => ?_)
    · have h := h.1 c2
      refine lv_iconst (v := 1) C0.1 C0.2.1 dX8_turn_158 (by decide) ?_
      exact bX8_turn_b159 C0 Y hk140 _ _ _ _ _ _ _ _ h hO hS (lv_sub hl [0, 1, 2, 3] rfl)
    · have h := h.2 c2
      refine lv_iconst (v := (-1)) C0.1 C0.2.1 dX8_turn_154 (by decide) ?_
      refine lv_goto (tgt := 159) C0.1 C0.2.1 dX8_turn_155 (by decide) ?_
      exact bX8_turn_b159 C0 Y hk140 _ _ _ _ _ _ _ _ h hO hS (lv_sub hl [0, 1, 2, 3] rfl)
set_option maxHeartbeats 4000000 in
set_option maxRecDepth 100000 in
theorem lX8_turn_b140 {p : Program} {l : Launch} {e : Env} {s : State} {m : MethodId} {args : Array Value} {below : List Frame} {meth : Method} {c : Code} {G : Gw} {x0 : Nat} {x1 : Int32} {x2 : Int32} {Φ : Hp → Int32 → Prop} (C0 : Mx p s m c cX8_turn 5 args yX8_turn.cls G) (Y : My meth (some .int))  : ∀ n9 : Nat, ∀ (S : Hp) (v3 : Int32) (H : Heap) (locs : List Loc) (ls : Array Slot), it2 (wX8_turn_b140 x0 x1 x2 Φ) n9 S v3 → Ok G S H → va_S (Ab G.b) s.heap H locs → lv_has ls 5 [(0, .ref x0), (1, .int x1), (2, .int x2), (3, .int v3)] → W p l e rm_X8_turn s m args below meth c H locs 0 0 (MQ below (gQ G (PI Φ)) args s rm_X8_turn.cells rm_X8_turn.slots (Ab G.b)) (F0 m 140 ls []) := by
  intro n9
  induction n9 with
  | zero => intro S v3 H locs ls h; exact (h : False).elim
  | succ n9 ih => intro S v3 H locs ls h hO hS hl; exact bX8_turn_b140 C0 Y ih S v3 H locs ls h hO hS hl
def wX8_turn_b64 (x0 : Nat) (x1 : Int32) (x2 : Int32) (Φ : Hp → Int32 → Prop) (k64 : Hp → Int32 → Prop) (S : Hp) (v3 : Int32) : Prop := isA S x0 8 ∧ (((S.FI 543 x0) ≤ v3 → ∃ n, it2 (wX8_turn_b140 x0 x1 x2 Φ) n S 0) ∧ (¬ ((S.FI 543 x0) ≤ v3) → ∃ a3, S.FR 516 x0 = some a3 ∧ ∃ a4, S.FR 512 x0 = some a4 ∧ isA S a4 22 ∧ vp_in v3 (S.N a4) ∧ isA S a3 22 ∧ vp_in v3 (S.N a3) ∧ ∀ S9, S9 = S.setAJ a3 v3.toNatClampNeg (S.AJ a4 v3.toNatClampNeg) → ∃ a10, S9.FR 517 x0 = some a10 ∧ ∃ a11, S9.FR 513 x0 = some a11 ∧ isA S9 a11 22 ∧ vp_in v3 (S9.N a11) ∧ isA S9 a10 22 ∧ vp_in v3 (S9.N a10) ∧ ∀ S16, S16 = S9.setAJ a10 v3.toNatClampNeg (S9.AJ a11 v3.toNatClampNeg) → ∃ a17, S16.FR 520 x0 = some a17 ∧ wX8_depthOf 20 S16 x0 v3 (fun S18 r19 => isA S18 a17 21 ∧ vp_in v3 (S18.N a17) ∧ ∀ S22, S22 = S18.setAI a17 v3.toNatClampNeg r19 → isA S22 x0 8 ∧ ∃ a24, S22.FR 518 x0 = some a24 ∧ ((v3 = x1 → wX8_turn_b130 x0 x1 x2 Φ k64 S22 v3 a24 v3) ∧ (¬ (v3 = x1) → wX8_isBehind 20 S22 x0 v3 x1 (fun S26 r27 => ((r27 = 0 → wX8_turn_b130 x0 x1 x2 Φ k64 S26 v3 a24 v3) ∧ (¬ (r27 = 0) → wX8_turn_b131 x0 x1 x2 Φ k64 S26 v3 a24 v3 1))))))))
set_option maxHeartbeats 4000000 in
set_option maxRecDepth 100000 in
theorem bX8_turn_b64 {p : Program} {l : Launch} {e : Env} {s : State} {m : MethodId} {args : Array Value} {below : List Frame} {meth : Method} {c : Code} {G : Gw} {x0 : Nat} {x1 : Int32} {x2 : Int32} {Φ : Hp → Int32 → Prop} (C0 : Mx p s m c cX8_turn 5 args yX8_turn.cls G) (Y : My meth (some .int)) {k64 : Hp → Int32 → Prop} (hk64 : ∀ (S : Hp) (v3 : Int32) (H : Heap) (locs : List Loc) (ls : Array Slot), k64 S v3 → Ok G S H → va_S (Ab G.b) s.heap H locs → lv_has ls 5 [(0, .ref x0), (1, .int x1), (2, .int x2), (3, .int v3)] → W p l e rm_X8_turn s m args below meth c H locs 0 0 (MQ below (gQ G (PI Φ)) args s rm_X8_turn.cells rm_X8_turn.slots (Ab G.b)) (F0 m 64 ls [])) : ∀ (S : Hp) (v3 : Int32) (H : Heap) (locs : List Loc) (ls : Array Slot), wX8_turn_b64 x0 x1 x2 Φ k64 S v3 → Ok G S H → va_S (Ab G.b) s.heap H locs → lv_has ls 5 [(0, .ref x0), (1, .int x1), (2, .int x2), (3, .int v3)] → W p l e rm_X8_turn s m args below meth c H locs 0 0 (MQ below (gQ G (PI Φ)) args s rm_X8_turn.cells rm_X8_turn.slots (Ab G.b)) (F0 m 64 ls []) := by
  intro S v3 H locs ls h hO hS hl
  unfold wX8_turn_b64 at h
  refine lv_iload_n C0.1 C0.2.1 dX8_turn_64 rfl (lv_at hl 3 rfl) ?_
  refine lv_aload_n C0.1 C0.2.1 dX8_turn_65 rfl (lv_at hl 0 rfl) ?_
  obtain ⟨i1, h⟩ := h
  refine g8_31 C0 hO i1 tb_1359 dX8_turn_66 ?_
  refine lv_icmp_ge (tgt := 138) C0.1 C0.2.1 dX8_turn_69 (by decide) (fun c2 => ?_) (fun c2 => ?_)
  · have h := h.1 c2
    refine lv_iconst (v := 0) C0.1 C0.2.1 dX8_turn_138 (by decide) ?_
    refine lv_istore_n C0.1 C0.2.1 dX8_turn_139 rfl hl (by decide) rfl (fun ls hl => ?_)
    obtain ⟨n9, h⟩ := h
    exact lX8_turn_b140 C0 Y n9 _ _ _ _ _ h hO hS (lv_sub hl [1, 2, 3, 0] rfl)
  · have h := h.2 c2
    refine lv_aload_n C0.1 C0.2.1 dX8_turn_72 rfl (lv_at hl 0 rfl) ?_
    obtain ⟨a3, ea3, h⟩ := h
    refine g8_4 C0 hO i1 ea3 tb_1332 dX8_turn_73 ?_
    refine lv_iload_n C0.1 C0.2.1 dX8_turn_76 rfl (lv_at hl 3 rfl) ?_
    refine lv_aload_n C0.1 C0.2.1 dX8_turn_77 rfl (lv_at hl 0 rfl) ?_
    obtain ⟨a4, ea4, h⟩ := h
    refine g8_0 C0 hO i1 ea4 tb_1328 dX8_turn_78 ?_
    refine lv_iload_n C0.1 C0.2.1 dX8_turn_81 rfl (lv_at hl 3 rfl) ?_
    obtain ⟨i5, h⟩ := h
    obtain ⟨e6, h⟩ := h
    refine r_lald C0 hO i5 e6 dX8_turn_82 ?_
    obtain ⟨i7, h⟩ := h
    obtain ⟨e8, h⟩ := h
    refine r_last C0 hO hS i7 e8 dX8_turn_83 (fun H locs hO hS => ?_)
    have h := h _ rfl
    refine lv_aload_n C0.1 C0.2.1 dX8_turn_84 rfl (lv_at hl 0 rfl) ?_
    obtain ⟨a10, ea10, h⟩ := h
    refine g8_5 C0 hO (sA_AJ i1) ea10 tb_1333 dX8_turn_85 ?_
    refine lv_iload_n C0.1 C0.2.1 dX8_turn_88 rfl (lv_at hl 3 rfl) ?_
    refine lv_aload_n C0.1 C0.2.1 dX8_turn_89 rfl (lv_at hl 0 rfl) ?_
    obtain ⟨a11, ea11, h⟩ := h
    refine g8_1 C0 hO (sA_AJ i1) ea11 tb_1329 dX8_turn_90 ?_
    refine lv_iload_n C0.1 C0.2.1 dX8_turn_93 rfl (lv_at hl 3 rfl) ?_
    obtain ⟨i12, h⟩ := h
    obtain ⟨e13, h⟩ := h
    refine r_lald C0 hO i12 e13 dX8_turn_94 ?_
    obtain ⟨i14, h⟩ := h
    obtain ⟨e15, h⟩ := h
    refine r_last C0 hO hS i14 e15 dX8_turn_95 (fun H locs hO hS => ?_)
    have h := h _ rfl
    refine lv_aload_n C0.1 C0.2.1 dX8_turn_96 rfl (lv_at hl 0 rfl) ?_
    obtain ⟨a17, ea17, h⟩ := h
    refine g8_8 C0 hO (sA_AJ (sA_AJ i1)) ea17 tb_1336 dX8_turn_97 ?_
    refine lv_iload_n C0.1 C0.2.1 dX8_turn_100 rfl (lv_at hl 3 rfl) ?_
    refine lv_aload_n C0.1 C0.2.1 dX8_turn_101 rfl (lv_at hl 0 rfl) ?_
    refine lv_iload_n C0.1 C0.2.1 dX8_turn_102 rfl (lv_at hl 3 rfl) ?_
    refine c_V C0 hO hS (mX8_depthOf 20 h) (sA_AJ (sA_AJ i1)) (by decide) rfl rfl tb_1481 tb_1483 tb_42 tb_81 tb_1484 hd_X8_depthOf rfl ⟨⟨by decide, by decide⟩, by decide, by decide⟩ hl.1 rfl (Nat.le_of_ble_eq_true rfl) dX8_turn_103 (kI (fun r19 S18 H locs h hO hS => ?_))
    obtain ⟨i20, h⟩ := h
    obtain ⟨e21, h⟩ := h
    refine r_iast C0 hO hS i20 e21 dX8_turn_106 (fun H locs hO hS => ?_)
    have h := h _ rfl
    refine lv_aload_n C0.1 C0.2.1 dX8_turn_107 rfl (lv_at hl 0 rfl) ?_
    obtain ⟨i23, h⟩ := h
    obtain ⟨a24, ea24, h⟩ := h
    refine g8_6 C0 hO i23 ea24 tb_1334 dX8_turn_108 ?_
    refine lv_iload_n C0.1 C0.2.1 dX8_turn_111 rfl (lv_at hl 3 rfl) ?_
    refine lv_iload_n C0.1 C0.2.1 dX8_turn_112 rfl (lv_at hl 3 rfl) ?_
    refine lv_iload_n C0.1 C0.2.1 dX8_turn_113 rfl (lv_at hl 1 rfl) ?_
    refine lv_icmp_eq (tgt := 130) C0.1 C0.2.1 dX8_turn_114 (by decide) (fun c25 => ?_) (fun c25 => ?_)
    · have h := h.1 c25
      exact bX8_turn_b130 C0 Y hk64 _ _ _ _ _ _ _ h hO hS (lv_sub hl [0, 1, 2, 3] rfl)
    · have h := h.2 c25
      refine lv_aload_n C0.1 C0.2.1 dX8_turn_117 rfl (lv_at hl 0 rfl) ?_
      refine lv_iload_n C0.1 C0.2.1 dX8_turn_118 rfl (lv_at hl 3 rfl) ?_
      refine lv_iload_n C0.1 C0.2.1 dX8_turn_119 rfl (lv_at hl 1 rfl) ?_
      refine c_V C0 hO hS (mX8_isBehind 20 h) i23 (by decide) rfl rfl tb_1522 tb_1524 tb_46 tb_81 tb_1525 hd_X8_isBehind rfl ⟨⟨by decide, by decide⟩, by decide, by decide⟩ hl.1 rfl (Nat.le_of_ble_eq_true rfl) dX8_turn_120 (kI (fun r27 S26 H locs h hO hS => ?_))
      refine lv_if_eq (tgt := 130) C0.1 C0.2.1 dX8_turn_123 (by decide) (fun c28 => ?_) (fun c28 => ?_)
      · have h := h.1 c28
        exact bX8_turn_b130 C0 Y hk64 _ _ _ _ _ _ _ h hO hS (lv_sub hl [0, 1, 2, 3] rfl)
      · have h := h.2 c28
        refine lv_iconst (v := 1) C0.1 C0.2.1 dX8_turn_126 (by decide) ?_
        refine lv_goto (tgt := 131) C0.1 C0.2.1 dX8_turn_127 (by decide) ?_
        exact bX8_turn_b131 C0 Y hk64 _ _ _ _ _ _ _ _ h hO hS (lv_sub hl [0, 1, 2, 3] rfl)
set_option maxHeartbeats 4000000 in
set_option maxRecDepth 100000 in
theorem lX8_turn_b64 {p : Program} {l : Launch} {e : Env} {s : State} {m : MethodId} {args : Array Value} {below : List Frame} {meth : Method} {c : Code} {G : Gw} {x0 : Nat} {x1 : Int32} {x2 : Int32} {Φ : Hp → Int32 → Prop} (C0 : Mx p s m c cX8_turn 5 args yX8_turn.cls G) (Y : My meth (some .int))  : ∀ n9 : Nat, ∀ (S : Hp) (v3 : Int32) (H : Heap) (locs : List Loc) (ls : Array Slot), it2 (wX8_turn_b64 x0 x1 x2 Φ) n9 S v3 → Ok G S H → va_S (Ab G.b) s.heap H locs → lv_has ls 5 [(0, .ref x0), (1, .int x1), (2, .int x2), (3, .int v3)] → W p l e rm_X8_turn s m args below meth c H locs 0 0 (MQ below (gQ G (PI Φ)) args s rm_X8_turn.cells rm_X8_turn.slots (Ab G.b)) (F0 m 64 ls []) := by
  intro n9
  induction n9 with
  | zero => intro S v3 H locs ls h; exact (h : False).elim
  | succ n9 ih => intro S v3 H locs ls h hO hS hl; exact bX8_turn_b64 C0 Y ih S v3 H locs ls h hO hS hl
def wX8_turn_b53 (x0 : Nat) (x1 : Int32) (x2 : Int32) (Φ : Hp → Int32 → Prop) (S : Hp) (z0 : Nat) (z1 : Int32) : Prop := isA S z0 8 ∧ wX8_isThrown S z0 z1 3 (fun S1 r2 => ((r2 = 0 → ∃ n, it2 (wX8_turn_b64 x0 x1 x2 Φ) n S1 0) ∧ (¬ (r2 = 0) → Φ S1 0)))
set_option maxHeartbeats 4000000 in
set_option maxRecDepth 100000 in
theorem bX8_turn_b53 {p : Program} {l : Launch} {e : Env} {s : State} {m : MethodId} {args : Array Value} {below : List Frame} {meth : Method} {c : Code} {G : Gw} {x0 : Nat} {x1 : Int32} {x2 : Int32} {Φ : Hp → Int32 → Prop} (C0 : Mx p s m c cX8_turn 5 args yX8_turn.cls G) (Y : My meth (some .int))  : ∀ (S : Hp) (z0 : Nat) (z1 : Int32) (H : Heap) (locs : List Loc) (ls : Array Slot), wX8_turn_b53 x0 x1 x2 Φ S z0 z1 → Ok G S H → va_S (Ab G.b) s.heap H locs → lv_has ls 5 [(0, .ref x0), (1, .int x1), (2, .int x2)] → W p l e rm_X8_turn s m args below meth c H locs 0 0 (MQ below (gQ G (PI Φ)) args s rm_X8_turn.cells rm_X8_turn.slots (Ab G.b)) (F0 m 53 ls [.int z1, .ref z0]) := by
  intro S z0 z1 H locs ls h hO hS hl
  unfold wX8_turn_b53 at h
  refine lv_iconst (v := 3) C0.1 C0.2.1 dX8_turn_53 (by decide) ?_
  obtain ⟨i3, h⟩ := h
  refine c_V C0 hO hS (mX8_isThrown h) i3 (by decide) rfl rfl tb_1451 tb_1453 tb_37 tb_81 tb_1454 hd_X8_isThrown rfl ⟨⟨by decide, by decide⟩, by decide, by decide⟩ hl.1 rfl (Nat.le_of_ble_eq_true rfl) dX8_turn_54 (kI (fun r2 S1 H locs h hO hS => ?_))
  refine lv_if_eq (tgt := 62) C0.1 C0.2.1 dX8_turn_57 (by decide) (fun c4 => ?_) (fun c4 => ?_)
  · have h := h.1 c4
    refine lv_iconst (v := 0) C0.1 C0.2.1 dX8_turn_62 (by decide) ?_
    refine lv_istore_n C0.1 C0.2.1 dX8_turn_63 rfl hl (by decide) rfl (fun ls hl => ?_)
    obtain ⟨n9, h⟩ := h
    exact lX8_turn_b64 C0 Y n9 _ _ _ _ _ h hO hS (lv_sub hl [1, 2, 3, 0] rfl)
  · have h := h.2 c4
    refine lv_iconst (v := 0) C0.1 C0.2.1 dX8_turn_60 (by decide) ?_
    exact e_I C0 Y hO hS h (Nat.le_refl _) (Nat.le_refl _) dX8_turn_61
def wX8_turn_b30 (x0 : Nat) (x1 : Int32) (x2 : Int32) (Φ : Hp → Int32 → Prop) (S : Hp) (z0 : Nat) (z1 : Int32) : Prop := isA S z0 8 ∧ wX8_isThrown S z0 z1 2 (fun S1 r2 => ((¬ r2 = 0 → Φ S1 0) ∧ (r2 = 0 → isA S1 x0 8 ∧ ∃ a6, S1.FR 519 x0 = some a6 ∧ isA S1 a6 21 ∧ vp_in x1 (S1.N a6) ∧ (((S1.AI a6 x1.toNatClampNeg) = (-1) → wX8_turn_b53 x0 x1 x2 Φ S1 x0 0) ∧ (¬ ((S1.AI a6 x1.toNatClampNeg) = (-1)) → wX8_turn_b53 x0 x1 x2 Φ S1 x0 1)))))
set_option maxHeartbeats 4000000 in
set_option maxRecDepth 100000 in
theorem bX8_turn_b30 {p : Program} {l : Launch} {e : Env} {s : State} {m : MethodId} {args : Array Value} {below : List Frame} {meth : Method} {c : Code} {G : Gw} {x0 : Nat} {x1 : Int32} {x2 : Int32} {Φ : Hp → Int32 → Prop} (C0 : Mx p s m c cX8_turn 5 args yX8_turn.cls G) (Y : My meth (some .int))  : ∀ (S : Hp) (z0 : Nat) (z1 : Int32) (H : Heap) (locs : List Loc) (ls : Array Slot), wX8_turn_b30 x0 x1 x2 Φ S z0 z1 → Ok G S H → va_S (Ab G.b) s.heap H locs → lv_has ls 5 [(0, .ref x0), (1, .int x1), (2, .int x2)] → W p l e rm_X8_turn s m args below meth c H locs 0 0 (MQ below (gQ G (PI Φ)) args s rm_X8_turn.cells rm_X8_turn.slots (Ab G.b)) (F0 m 30 ls [.int z1, .ref z0]) := by
  intro S z0 z1 H locs ls h hO hS hl
  unfold wX8_turn_b30 at h
  refine lv_iconst (v := 2) C0.1 C0.2.1 dX8_turn_30 (by decide) ?_
  obtain ⟨i3, h⟩ := h
  refine c_V C0 hO hS (mX8_isThrown h) i3 (by decide) rfl rfl tb_1451 tb_1453 tb_37 tb_81 tb_1454 hd_X8_isThrown rfl ⟨⟨by decide, by decide⟩, by decide, by decide⟩ hl.1 rfl (Nat.le_of_ble_eq_true rfl) dX8_turn_31 (kI (fun r2 S1 H locs h hO hS => ?_))
  refine lv_if_ne (tgt := 60) C0.1 C0.2.1 dX8_turn_34 (by decide) (fun c4 => ?_) (fun c4 => ?_)
  · have h := h.1 c4
    refine lv_iconst (v := 0) C0.1 C0.2.1 dX8_turn_60 (by decide) ?_
    exact e_I C0 Y hO hS h (Nat.le_refl _) (Nat.le_refl _) dX8_turn_61
  · have h := h.2 c4
    refine lv_aload_n C0.1 C0.2.1 dX8_turn_37 rfl (lv_at hl 0 rfl) ?_
    refine lv_aload_n C0.1 C0.2.1 dX8_turn_38 rfl (lv_at hl 0 rfl) ?_
    obtain ⟨i5, h⟩ := h
    obtain ⟨a6, ea6, h⟩ := h
    refine g8_7 C0 hO i5 ea6 tb_1335 dX8_turn_39 ?_
    refine lv_iload_n C0.1 C0.2.1 dX8_turn_42 rfl (lv_at hl 1 rfl) ?_
    obtain ⟨i7, h⟩ := h
    obtain ⟨e8, h⟩ := h
    refine r_iald C0 hO i7 e8 dX8_turn_43 ?_
    refine lv_iconst (v := (-1)) C0.1 C0.2.1 dX8_turn_44 (by decide) ?_
    refine lv_icmp_eq (tgt := 52) C0.1 C0.2.1 dX8_turn_45 (by decide) (fun c9 => ?_) (fun c9 => ?_)
    · have h := h.1 c9
      refine lv_iconst (v := 0) C0.1 C0.2.1 dX8_turn_52 (by decide) ?_
      exact bX8_turn_b53 C0 Y _ _ _ _ _ _ h hO hS (lv_sub hl [0, 1, 2] rfl)
    · have h := h.2 c9
      refine lv_iconst (v := 1) C0.1 C0.2.1 dX8_turn_48 (by decide) ?_
      refine lv_goto (tgt := 53) C0.1 C0.2.1 dX8_turn_49 (by decide) ?_
      exact bX8_turn_b53 C0 Y _ _ _ _ _ _ h hO hS (lv_sub hl [0, 1, 2] rfl)
def wX8_turn_b0 (x0 : Nat) (x1 : Int32) (x2 : Int32) (Φ : Hp → Int32 → Prop) (S : Hp) : Prop := isA S x0 8 ∧ wX8_isNoShaft S x0 x1 (fun S1 r2 => isA S1 x0 8 ∧ wX8_isThrown S1 x0 r2 1 (fun S4 r5 => ((¬ r5 = 0 → Φ S4 0) ∧ (r5 = 0 → wX8_isIn S4 x2 (-48) 48 (fun S8 r9 => ((¬ r9 = 0 → wX8_turn_b30 x0 x1 x2 Φ S8 x0 0) ∧ (r9 = 0 → wX8_turn_b30 x0 x1 x2 Φ S8 x0 1)))))))
set_option maxHeartbeats 4000000 in
set_option maxRecDepth 100000 in
theorem bX8_turn_b0 {p : Program} {l : Launch} {e : Env} {s : State} {m : MethodId} {args : Array Value} {below : List Frame} {meth : Method} {c : Code} {G : Gw} {x0 : Nat} {x1 : Int32} {x2 : Int32} {Φ : Hp → Int32 → Prop} (C0 : Mx p s m c cX8_turn 5 args yX8_turn.cls G) (Y : My meth (some .int))  : ∀ (S : Hp) (H : Heap) (locs : List Loc) (ls : Array Slot), wX8_turn_b0 x0 x1 x2 Φ S → Ok G S H → va_S (Ab G.b) s.heap H locs → lv_has ls 5 [(0, .ref x0), (1, .int x1), (2, .int x2)] → W p l e rm_X8_turn s m args below meth c H locs 0 0 (MQ below (gQ G (PI Φ)) args s rm_X8_turn.cells rm_X8_turn.slots (Ab G.b)) (F0 m 0 ls []) := by
  intro S H locs ls h hO hS hl
  unfold wX8_turn_b0 at h
  refine lv_aload_n C0.1 C0.2.1 dX8_turn_0 rfl (lv_at hl 0 rfl) ?_
  refine lv_aload_n C0.1 C0.2.1 dX8_turn_1 rfl (lv_at hl 0 rfl) ?_
  refine lv_iload_n C0.1 C0.2.1 dX8_turn_2 rfl (lv_at hl 1 rfl) ?_
  obtain ⟨i3, h⟩ := h
  refine c_V C0 hO hS (mX8_isNoShaft h) i3 (by decide) rfl rfl tb_1459 tb_1461 tb_38 tb_81 tb_1462 hd_X8_isNoShaft rfl ⟨⟨by decide, by decide⟩, by decide, by decide⟩ hl.1 rfl (Nat.le_of_ble_eq_true rfl) dX8_turn_3 (kI (fun r2 S1 H locs h hO hS => ?_))
  refine lv_iconst (v := 1) C0.1 C0.2.1 dX8_turn_6 (by decide) ?_
  obtain ⟨i6, h⟩ := h
  refine c_V C0 hO hS (mX8_isThrown h) i6 (by decide) rfl rfl tb_1451 tb_1453 tb_37 tb_81 tb_1454 hd_X8_isThrown rfl ⟨⟨by decide, by decide⟩, by decide, by decide⟩ hl.1 rfl (Nat.le_of_ble_eq_true rfl) dX8_turn_7 (kI (fun r5 S4 H locs h hO hS => ?_))
  refine lv_if_ne (tgt := 60) C0.1 C0.2.1 dX8_turn_10 (by decide) (fun c7 => ?_) (fun c7 => ?_)
  · have h := h.1 c7
    refine lv_iconst (v := 0) C0.1 C0.2.1 dX8_turn_60 (by decide) ?_
    exact e_I C0 Y hO hS h (Nat.le_refl _) (Nat.le_refl _) dX8_turn_61
  · have h := h.2 c7
    refine lv_aload_n C0.1 C0.2.1 dX8_turn_13 rfl (lv_at hl 0 rfl) ?_
    refine lv_iload_n C0.1 C0.2.1 dX8_turn_14 rfl (lv_at hl 2 rfl) ?_
    refine lv_bipush (v := (-48)) C0.1 C0.2.1 dX8_turn_15 (by decide) ?_
    refine lv_bipush (v := 48) C0.1 C0.2.1 dX8_turn_17 (by decide) ?_
    refine c_S C0 hO hS (mX8_isIn h) tb_1463 tb_1464 tb_81 tb_1465 hd_X8_isIn rfl ⟨⟨by decide, by decide⟩, by decide, by decide⟩ hl.1 rfl (Nat.le_of_ble_eq_true rfl) dX8_turn_19 (kI (fun r9 S8 H locs h hO hS => ?_))
    refine lv_if_ne (tgt := 29) C0.1 C0.2.1 dX8_turn_22 (by decide) (fun c10 => ?_) (fun c10 => ?_)
    · have h := h.1 c10
      refine lv_iconst (v := 0) C0.1 C0.2.1 dX8_turn_29 (by decide) ?_
      exact bX8_turn_b30 C0 Y _ _ _ _ _ _ h hO hS (lv_sub hl [0, 1, 2] rfl)
    · have h := h.2 c10
      refine lv_iconst (v := 1) C0.1 C0.2.1 dX8_turn_25 (by decide) ?_
      refine lv_goto (tgt := 30) C0.1 C0.2.1 dX8_turn_26 (by decide) ?_
      exact bX8_turn_b30 C0 Y _ _ _ _ _ _ h hO hS (lv_sub hl [0, 1, 2] rfl)
def wX8_turn (S : Hp) (x0 : Nat) (x1 : Int32) (x2 : Int32) (Φ : Hp → Int32 → Prop) : Prop := wX8_turn_b0 x0 x1 x2 Φ S
set_option maxRecDepth 100000 in
theorem mX8_turn {l : Launch} {G : Gw} {S : Hp} {x0 : Nat} {x1 : Int32} {x2 : Int32} {Φ : Hp → Int32 → Prop} (h : wX8_turn S x0 x1 x2 Φ) : gM l yX8_turn cX8_turn 5 (some .int) rm_X8_turn [.ref x0, .int x1, .int x2] G S (PI Φ) := by
  unfold gM
  refine Met.ofW (cc := cX8_turn) (maxL := 5) (ret := (some .int)) (by decide) rfl ?_
  intro p e s m args below meth c s₁ B hml hv
  obtain ⟨rfl, hw⟩ := hv
  obtain ⟨C0, Y, hO⟩ := mx_of B hml hw
  have hS : va_S (Ab G.b) s.heap s.heap [] := va_S.rf
  have hl := lv_entry ([.ref x0, .int x1, .int x2]) (n := 5) (Nat.le_of_ble_eq_true rfl)
  rw [lg_entry_eq]
  generalize (lg_sl ([.ref x0, .int x1, .int x2]) ++ List.replicate (5 - (lg_sl ([.ref x0, .int x1, .int x2])).length) Slot.unset).toArray = ls at hl ⊢
  have hl : lv_has ls 5 [(0, .ref x0), (1, .int x1), (2, .int x2)] := hl
  exact bX8_turn_b0 C0 Y S _ _ _ h hO hS hl

def rm_X8_placeOver : Room := { frames := 2, cells := 0, slots := 0, locals := 43 }
def wX8_placeOver_b0 (x0 : Nat) (x1 : Int32) (Φ : Hp → Int64 → Prop) (S : Hp) : Prop := isA S x0 8 ∧ wX8_isNoShaft S x0 x1 (fun S1 r2 => isA S1 x0 8 ∧ wX8_isThrown S1 x0 r2 1 (fun S4 r5 => ((r5 = 0 → isA S4 x0 8 ∧ ∃ a9, S4.FR 512 x0 = some a9 ∧ isA S4 a9 22 ∧ vp_in x1 (S4.N a9) ∧ Φ S4 (S4.AJ a9 x1.toNatClampNeg)) ∧ (¬ (r5 = 0) → Φ S4 0))))
set_option maxHeartbeats 4000000 in
set_option maxRecDepth 100000 in
theorem bX8_placeOver_b0 {p : Program} {l : Launch} {e : Env} {s : State} {m : MethodId} {args : Array Value} {below : List Frame} {meth : Method} {c : Code} {G : Gw} {x0 : Nat} {x1 : Int32} {Φ : Hp → Int64 → Prop} (C0 : Mx p s m c cX8_placeOver 2 args yX8_placeOver.cls G) (Y : My meth (some .long))  : ∀ (S : Hp) (H : Heap) (locs : List Loc) (ls : Array Slot), wX8_placeOver_b0 x0 x1 Φ S → Ok G S H → va_S (Ab G.b) s.heap H locs → lv_has ls 2 [(0, .ref x0), (1, .int x1)] → W p l e rm_X8_placeOver s m args below meth c H locs 0 0 (MQ below (gQ G (PJ Φ)) args s rm_X8_placeOver.cells rm_X8_placeOver.slots (Ab G.b)) (F0 m 0 ls []) := by
  intro S H locs ls h hO hS hl
  unfold wX8_placeOver_b0 at h
  refine lv_aload_n C0.1 C0.2.1 dX8_placeOver_0 rfl (lv_at hl 0 rfl) ?_
  refine lv_aload_n C0.1 C0.2.1 dX8_placeOver_1 rfl (lv_at hl 0 rfl) ?_
  refine lv_iload_n C0.1 C0.2.1 dX8_placeOver_2 rfl (lv_at hl 1 rfl) ?_
  obtain ⟨i3, h⟩ := h
  refine c_V C0 hO hS (mX8_isNoShaft h) i3 (by decide) rfl rfl tb_1459 tb_1461 tb_38 tb_81 tb_1462 hd_X8_isNoShaft rfl ⟨⟨by decide, by decide⟩, by decide, by decide⟩ hl.1 rfl (Nat.le_of_ble_eq_true rfl) dX8_placeOver_3 (kI (fun r2 S1 H locs h hO hS => ?_))
  refine lv_iconst (v := 1) C0.1 C0.2.1 dX8_placeOver_6 (by decide) ?_
  obtain ⟨i6, h⟩ := h
  refine c_V C0 hO hS (mX8_isThrown h) i6 (by decide) rfl rfl tb_1451 tb_1453 tb_37 tb_81 tb_1454 hd_X8_isThrown rfl ⟨⟨by decide, by decide⟩, by decide, by decide⟩ hl.1 rfl (Nat.le_of_ble_eq_true rfl) dX8_placeOver_7 (kI (fun r5 S4 H locs h hO hS => ?_))
  refine lv_if_eq (tgt := 17) C0.1 C0.2.1 dX8_placeOver_10 (by decide) (fun c7 => ?_) (fun c7 => ?_)
  · have h := h.1 c7
    refine lv_aload_n C0.1 C0.2.1 dX8_placeOver_17 rfl (lv_at hl 0 rfl) ?_
    obtain ⟨i8, h⟩ := h
    obtain ⟨a9, ea9, h⟩ := h
    refine g8_0 C0 hO i8 ea9 tb_1328 dX8_placeOver_18 ?_
    refine lv_iload_n C0.1 C0.2.1 dX8_placeOver_21 rfl (lv_at hl 1 rfl) ?_
    obtain ⟨i10, h⟩ := h
    obtain ⟨e11, h⟩ := h
    refine r_lald C0 hO i10 e11 dX8_placeOver_22 ?_
    exact e_J C0 Y hO hS h (Nat.le_refl _) (Nat.le_refl _) dX8_placeOver_23
  · have h := h.2 c7
    refine lv_lconst (v := 0) C0.1 C0.2.1 dX8_placeOver_13 (by decide) ?_
    refine lv_goto (tgt := 23) C0.1 C0.2.1 dX8_placeOver_14 (by decide) ?_
    exact e_J C0 Y hO hS h (Nat.le_refl _) (Nat.le_refl _) dX8_placeOver_23
def wX8_placeOver (S : Hp) (x0 : Nat) (x1 : Int32) (Φ : Hp → Int64 → Prop) : Prop := wX8_placeOver_b0 x0 x1 Φ S
set_option maxRecDepth 100000 in
theorem mX8_placeOver {l : Launch} {G : Gw} {S : Hp} {x0 : Nat} {x1 : Int32} {Φ : Hp → Int64 → Prop} (h : wX8_placeOver S x0 x1 Φ) : gM l yX8_placeOver cX8_placeOver 2 (some .long) rm_X8_placeOver [.ref x0, .int x1] G S (PJ Φ) := by
  unfold gM
  refine Met.ofW (cc := cX8_placeOver) (maxL := 2) (ret := (some .long)) (by decide) rfl ?_
  intro p e s m args below meth c s₁ B hml hv
  obtain ⟨rfl, hw⟩ := hv
  obtain ⟨C0, Y, hO⟩ := mx_of B hml hw
  have hS : va_S (Ab G.b) s.heap s.heap [] := va_S.rf
  have hl := lv_entry ([.ref x0, .int x1]) (n := 2) (Nat.le_of_ble_eq_true rfl)
  rw [lg_entry_eq]
  generalize (lg_sl ([.ref x0, .int x1]) ++ List.replicate (2 - (lg_sl ([.ref x0, .int x1])).length) Slot.unset).toArray = ls at hl ⊢
  have hl : lv_has ls 2 [(0, .ref x0), (1, .int x1)] := hl
  exact bX8_placeOver_b0 C0 Y S _ _ _ h hO hS hl

def rm_X8_placeUnder : Room := { frames := 2, cells := 0, slots := 0, locals := 43 }
def wX8_placeUnder_b0 (x0 : Nat) (x1 : Int32) (Φ : Hp → Int64 → Prop) (S : Hp) : Prop := isA S x0 8 ∧ wX8_isNoShaft S x0 x1 (fun S1 r2 => isA S1 x0 8 ∧ wX8_isThrown S1 x0 r2 1 (fun S4 r5 => ((r5 = 0 → isA S4 x0 8 ∧ ∃ a9, S4.FR 513 x0 = some a9 ∧ isA S4 a9 22 ∧ vp_in x1 (S4.N a9) ∧ Φ S4 (S4.AJ a9 x1.toNatClampNeg)) ∧ (¬ (r5 = 0) → Φ S4 0))))
set_option maxHeartbeats 4000000 in
set_option maxRecDepth 100000 in
theorem bX8_placeUnder_b0 {p : Program} {l : Launch} {e : Env} {s : State} {m : MethodId} {args : Array Value} {below : List Frame} {meth : Method} {c : Code} {G : Gw} {x0 : Nat} {x1 : Int32} {Φ : Hp → Int64 → Prop} (C0 : Mx p s m c cX8_placeUnder 2 args yX8_placeUnder.cls G) (Y : My meth (some .long))  : ∀ (S : Hp) (H : Heap) (locs : List Loc) (ls : Array Slot), wX8_placeUnder_b0 x0 x1 Φ S → Ok G S H → va_S (Ab G.b) s.heap H locs → lv_has ls 2 [(0, .ref x0), (1, .int x1)] → W p l e rm_X8_placeUnder s m args below meth c H locs 0 0 (MQ below (gQ G (PJ Φ)) args s rm_X8_placeUnder.cells rm_X8_placeUnder.slots (Ab G.b)) (F0 m 0 ls []) := by
  intro S H locs ls h hO hS hl
  unfold wX8_placeUnder_b0 at h
  refine lv_aload_n C0.1 C0.2.1 dX8_placeUnder_0 rfl (lv_at hl 0 rfl) ?_
  refine lv_aload_n C0.1 C0.2.1 dX8_placeUnder_1 rfl (lv_at hl 0 rfl) ?_
  refine lv_iload_n C0.1 C0.2.1 dX8_placeUnder_2 rfl (lv_at hl 1 rfl) ?_
  obtain ⟨i3, h⟩ := h
  refine c_V C0 hO hS (mX8_isNoShaft h) i3 (by decide) rfl rfl tb_1459 tb_1461 tb_38 tb_81 tb_1462 hd_X8_isNoShaft rfl ⟨⟨by decide, by decide⟩, by decide, by decide⟩ hl.1 rfl (Nat.le_of_ble_eq_true rfl) dX8_placeUnder_3 (kI (fun r2 S1 H locs h hO hS => ?_))
  refine lv_iconst (v := 1) C0.1 C0.2.1 dX8_placeUnder_6 (by decide) ?_
  obtain ⟨i6, h⟩ := h
  refine c_V C0 hO hS (mX8_isThrown h) i6 (by decide) rfl rfl tb_1451 tb_1453 tb_37 tb_81 tb_1454 hd_X8_isThrown rfl ⟨⟨by decide, by decide⟩, by decide, by decide⟩ hl.1 rfl (Nat.le_of_ble_eq_true rfl) dX8_placeUnder_7 (kI (fun r5 S4 H locs h hO hS => ?_))
  refine lv_if_eq (tgt := 17) C0.1 C0.2.1 dX8_placeUnder_10 (by decide) (fun c7 => ?_) (fun c7 => ?_)
  · have h := h.1 c7
    refine lv_aload_n C0.1 C0.2.1 dX8_placeUnder_17 rfl (lv_at hl 0 rfl) ?_
    obtain ⟨i8, h⟩ := h
    obtain ⟨a9, ea9, h⟩ := h
    refine g8_1 C0 hO i8 ea9 tb_1329 dX8_placeUnder_18 ?_
    refine lv_iload_n C0.1 C0.2.1 dX8_placeUnder_21 rfl (lv_at hl 1 rfl) ?_
    obtain ⟨i10, h⟩ := h
    obtain ⟨e11, h⟩ := h
    refine r_lald C0 hO i10 e11 dX8_placeUnder_22 ?_
    exact e_J C0 Y hO hS h (Nat.le_refl _) (Nat.le_refl _) dX8_placeUnder_23
  · have h := h.2 c7
    refine lv_lconst (v := 0) C0.1 C0.2.1 dX8_placeUnder_13 (by decide) ?_
    refine lv_goto (tgt := 23) C0.1 C0.2.1 dX8_placeUnder_14 (by decide) ?_
    exact e_J C0 Y hO hS h (Nat.le_refl _) (Nat.le_refl _) dX8_placeUnder_23
def wX8_placeUnder (S : Hp) (x0 : Nat) (x1 : Int32) (Φ : Hp → Int64 → Prop) : Prop := wX8_placeUnder_b0 x0 x1 Φ S
set_option maxRecDepth 100000 in
theorem mX8_placeUnder {l : Launch} {G : Gw} {S : Hp} {x0 : Nat} {x1 : Int32} {Φ : Hp → Int64 → Prop} (h : wX8_placeUnder S x0 x1 Φ) : gM l yX8_placeUnder cX8_placeUnder 2 (some .long) rm_X8_placeUnder [.ref x0, .int x1] G S (PJ Φ) := by
  unfold gM
  refine Met.ofW (cc := cX8_placeUnder) (maxL := 2) (ret := (some .long)) (by decide) rfl ?_
  intro p e s m args below meth c s₁ B hml hv
  obtain ⟨rfl, hw⟩ := hv
  obtain ⟨C0, Y, hO⟩ := mx_of B hml hw
  have hS : va_S (Ab G.b) s.heap s.heap [] := va_S.rf
  have hl := lv_entry ([.ref x0, .int x1]) (n := 2) (Nat.le_of_ble_eq_true rfl)
  rw [lg_entry_eq]
  generalize (lg_sl ([.ref x0, .int x1]) ++ List.replicate (2 - (lg_sl ([.ref x0, .int x1])).length) Slot.unset).toArray = ls at hl ⊢
  have hl : lv_has ls 2 [(0, .ref x0), (1, .int x1)] := hl
  exact bX8_placeUnder_b0 C0 Y S _ _ _ h hO hS hl

def rm_X8_isUneven (d : Nat) : Room := { frames := 21 + d, cells := 0, slots := 0, locals := 483 + d * 24 }
def wX8_isUneven_b109 (rec : Hp → Nat → Int32 → Int32 → (Hp → Int32 → Prop) → Prop) (x0 : Nat) (x1 : Int32) (x2 : Int32) (Φ : Hp → Int32 → Prop) (S : Hp) : Prop := Φ S 1
set_option maxHeartbeats 4000000 in
set_option maxRecDepth 100000 in
theorem bX8_isUneven_b109 {p : Program} {l : Launch} {e : Env} {s : State} {m : MethodId} {args : Array Value} {below : List Frame} {meth : Method} {c : Code} {G : Gw} {rec : Hp → Nat → Int32 → Int32 → (Hp → Int32 → Prop) → Prop} {x0 : Nat} {x1 : Int32} {x2 : Int32} {Φ : Hp → Int32 → Prop} (C0 : Mx p s m c cX8_isUneven 5 args yX8_isUneven.cls G) (Y : My meth (some .boolean)) {d9 : Nat} (ihr : ∀ {S : Hp} {x0 : Nat} {x1 : Int32} {x2 : Int32} {Φ : Hp → Int32 → Prop}, rec S x0 x1 x2 Φ → gM l yX8_isUneven cX8_isUneven 5 (some .boolean) (rm_X8_isUneven d9) [.ref x0, .int x1, .int x2] G S (PI Φ))  : ∀ (S : Hp) (H : Heap) (locs : List Loc) (ls : Array Slot), wX8_isUneven_b109 rec x0 x1 x2 Φ S → Ok G S H → va_S (Ab G.b) s.heap H locs → lv_has ls 5 [(0, .ref x0), (1, .int x1), (2, .int x2)] → W p l e (rm_X8_isUneven (d9 + 1)) s m args below meth c H locs 0 0 (MQ below (gQ G (PI Φ)) args s (rm_X8_isUneven (d9 + 1)).cells (rm_X8_isUneven (d9 + 1)).slots (Ab G.b)) (F0 m 109 ls []) := by
  intro S H locs ls h hO hS hl
  unfold wX8_isUneven_b109 at h
  refine lv_iconst (v := 1) C0.1 C0.2.1 dX8_isUneven_109 (by decide) ?_
  refine lv_goto (tgt := 114) C0.1 C0.2.1 dX8_isUneven_110 (by decide) ?_
  exact e_Z C0 Y hO hS rfl h (Nat.le_refl _) (Nat.le_refl _) dX8_isUneven_114
def wX8_isUneven_b64 (rec : Hp → Nat → Int32 → Int32 → (Hp → Int32 → Prop) → Prop) (x0 : Nat) (x1 : Int32) (x2 : Int32) (Φ : Hp → Int32 → Prop) (S : Hp) (v3 : Int32) (z0 : Int32) : Prop := ((¬ z0 = 0 → wX8_isUneven_b109 rec x0 x1 x2 Φ S) ∧ (z0 = 0 → isA S x0 8 ∧ ∃ a3, S.FR 522 x0 = some a3 ∧ isA S a3 21 ∧ vp_in v3 (S.N a3) ∧ rec S x0 (S.AI a3 v3.toNatClampNeg) x2 (fun S6 r7 => ((¬ r7 = 0 → wX8_isUneven_b109 rec x0 x1 x2 Φ S6) ∧ (r7 = 0 → isA S6 x0 8 ∧ ∃ a10, S6.FR 523 x0 = some a10 ∧ isA S6 a10 21 ∧ vp_in v3 (S6.N a10) ∧ (((S6.AI a10 v3.toNatClampNeg) = (-1) → Φ S6 0) ∧ (¬ ((S6.AI a10 v3.toNatClampNeg) = (-1)) → ∃ a14, S6.FR 523 x0 = some a14 ∧ isA S6 a14 21 ∧ vp_in v3 (S6.N a14) ∧ rec S6 x0 (S6.AI a14 v3.toNatClampNeg) x2 (fun S17 r18 => ((r18 = 0 → Φ S17 0) ∧ (¬ (r18 = 0) → wX8_isUneven_b109 rec x0 x1 x2 Φ S17))))))))))
set_option maxHeartbeats 4000000 in
set_option maxRecDepth 100000 in
theorem bX8_isUneven_b64 {p : Program} {l : Launch} {e : Env} {s : State} {m : MethodId} {args : Array Value} {below : List Frame} {meth : Method} {c : Code} {G : Gw} {rec : Hp → Nat → Int32 → Int32 → (Hp → Int32 → Prop) → Prop} {x0 : Nat} {x1 : Int32} {x2 : Int32} {Φ : Hp → Int32 → Prop} (C0 : Mx p s m c cX8_isUneven 5 args yX8_isUneven.cls G) (Y : My meth (some .boolean)) {d9 : Nat} (ihr : ∀ {S : Hp} {x0 : Nat} {x1 : Int32} {x2 : Int32} {Φ : Hp → Int32 → Prop}, rec S x0 x1 x2 Φ → gM l yX8_isUneven cX8_isUneven 5 (some .boolean) (rm_X8_isUneven d9) [.ref x0, .int x1, .int x2] G S (PI Φ))  : ∀ (S : Hp) (v3 : Int32) (z0 : Int32) (H : Heap) (locs : List Loc) (ls : Array Slot), wX8_isUneven_b64 rec x0 x1 x2 Φ S v3 z0 → Ok G S H → va_S (Ab G.b) s.heap H locs → lv_has ls 5 [(0, .ref x0), (1, .int x1), (2, .int x2), (3, .int v3)] → W p l e (rm_X8_isUneven (d9 + 1)) s m args below meth c H locs 0 0 (MQ below (gQ G (PI Φ)) args s (rm_X8_isUneven (d9 + 1)).cells (rm_X8_isUneven (d9 + 1)).slots (Ab G.b)) (F0 m 64 ls [.int z0]) := by
  intro S v3 z0 H locs ls h hO hS hl
  unfold wX8_isUneven_b64 at h
  refine lv_istore C0.1 C0.2.1 dX8_isUneven_64 hl (by decide) rfl (fun ls hl => ?_)
  refine lv_iload C0.1 C0.2.1 dX8_isUneven_66 (lv_at hl 0 rfl) ?_
  refine lv_if_ne (tgt := 109) C0.1 C0.2.1 dX8_isUneven_68 (by decide) (fun c1 => ?_) (fun c1 => ?_)
  · have h := h.1 c1
    exact bX8_isUneven_b109 C0 Y ihr _ _ _ _ h hO hS (lv_sub hl [1, 2, 3] rfl)
  · have h := h.2 c1
    refine lv_aload_n C0.1 C0.2.1 dX8_isUneven_71 rfl (lv_at hl 1 rfl) ?_
    refine lv_aload_n C0.1 C0.2.1 dX8_isUneven_72 rfl (lv_at hl 1 rfl) ?_
    obtain ⟨i2, h⟩ := h
    obtain ⟨a3, ea3, h⟩ := h
    refine g8_10 C0 hO i2 ea3 tb_1338 dX8_isUneven_73 ?_
    refine lv_iload_n C0.1 C0.2.1 dX8_isUneven_76 rfl (lv_at hl 4 rfl) ?_
    obtain ⟨i4, h⟩ := h
    obtain ⟨e5, h⟩ := h
    refine r_iald C0 hO i4 e5 dX8_isUneven_77 ?_
    refine lv_iload_n C0.1 C0.2.1 dX8_isUneven_78 rfl (lv_at hl 3 rfl) ?_
    refine c_V C0 hO hS (ihr h) i2 (by decide) rfl rfl tb_1579 tb_1581 tb_55 tb_81 tb_1582 hd_X8_isUneven rfl ⟨⟨by simp only [rm_X8_isUneven]; omega, by simp only [rm_X8_isUneven]; omega⟩, Nat.le_refl _, Nat.le_refl _⟩ hl.1 rfl (Nat.le_of_ble_eq_true rfl) dX8_isUneven_79 (kI (fun r7 S6 H locs h hO hS => ?_))
    refine lv_if_ne (tgt := 109) C0.1 C0.2.1 dX8_isUneven_82 (by decide) (fun c8 => ?_) (fun c8 => ?_)
    · have h := h.1 c8
      exact bX8_isUneven_b109 C0 Y ihr _ _ _ _ h hO hS (lv_sub hl [1, 2, 3] rfl)
    · have h := h.2 c8
      refine lv_aload_n C0.1 C0.2.1 dX8_isUneven_85 rfl (lv_at hl 1 rfl) ?_
      obtain ⟨i9, h⟩ := h
      obtain ⟨a10, ea10, h⟩ := h
      refine g8_11 C0 hO i9 ea10 tb_1339 dX8_isUneven_86 ?_
      refine lv_iload_n C0.1 C0.2.1 dX8_isUneven_89 rfl (lv_at hl 4 rfl) ?_
      obtain ⟨i11, h⟩ := h
      obtain ⟨e12, h⟩ := h
      refine r_iald C0 hO i11 e12 dX8_isUneven_90 ?_
      refine lv_iconst (v := (-1)) C0.1 C0.2.1 dX8_isUneven_91 (by decide) ?_
      refine lv_icmp_eq (tgt := 113) C0.1 C0.2.1 dX8_isUneven_92 (by decide) (fun c13 => ?_) (fun c13 => ?_)
      · have h := h.1 c13
        refine lv_iconst (v := 0) C0.1 C0.2.1 dX8_isUneven_113 (by decide) ?_
        exact e_Z C0 Y hO hS rfl h (Nat.le_refl _) (Nat.le_refl _) dX8_isUneven_114
      · have h := h.2 c13
        refine lv_aload_n C0.1 C0.2.1 dX8_isUneven_95 rfl (lv_at hl 1 rfl) ?_
        refine lv_aload_n C0.1 C0.2.1 dX8_isUneven_96 rfl (lv_at hl 1 rfl) ?_
        obtain ⟨a14, ea14, h⟩ := h
        refine g8_11 C0 hO i9 ea14 tb_1339 dX8_isUneven_97 ?_
        refine lv_iload_n C0.1 C0.2.1 dX8_isUneven_100 rfl (lv_at hl 4 rfl) ?_
        obtain ⟨i15, h⟩ := h
        obtain ⟨e16, h⟩ := h
        refine r_iald C0 hO i15 e16 dX8_isUneven_101 ?_
        refine lv_iload_n C0.1 C0.2.1 dX8_isUneven_102 rfl (lv_at hl 3 rfl) ?_
        refine c_V C0 hO hS (ihr h) i9 (by decide) rfl rfl tb_1579 tb_1581 tb_55 tb_81 tb_1582 hd_X8_isUneven rfl ⟨⟨by simp only [rm_X8_isUneven]; omega, by simp only [rm_X8_isUneven]; omega⟩, Nat.le_refl _, Nat.le_refl _⟩ hl.1 rfl (Nat.le_of_ble_eq_true rfl) dX8_isUneven_103 (kI (fun r18 S17 H locs h hO hS => ?_))
        refine lv_if_eq (tgt := 113) C0.1 C0.2.1 dX8_isUneven_106 (by decide) (fun c19 => ?_) (fun c19 => ?_)
        · have h := h.1 c19
          refine lv_iconst (v := 0) C0.1 C0.2.1 dX8_isUneven_113 (by decide) ?_
          exact e_Z C0 Y hO hS rfl h (Nat.le_refl _) (Nat.le_refl _) dX8_isUneven_114
        · have h := h.2 c19
          exact bX8_isUneven_b109 C0 Y ihr _ _ _ _ h hO hS (lv_sub hl [1, 2, 3] rfl)
def wX8_isUneven_b63 (rec : Hp → Nat → Int32 → Int32 → (Hp → Int32 → Prop) → Prop) (x0 : Nat) (x1 : Int32) (x2 : Int32) (Φ : Hp → Int32 → Prop) (S : Hp) (v3 : Int32) : Prop := wX8_isUneven_b64 rec x0 x1 x2 Φ S v3 0
set_option maxHeartbeats 4000000 in
set_option maxRecDepth 100000 in
theorem bX8_isUneven_b63 {p : Program} {l : Launch} {e : Env} {s : State} {m : MethodId} {args : Array Value} {below : List Frame} {meth : Method} {c : Code} {G : Gw} {rec : Hp → Nat → Int32 → Int32 → (Hp → Int32 → Prop) → Prop} {x0 : Nat} {x1 : Int32} {x2 : Int32} {Φ : Hp → Int32 → Prop} (C0 : Mx p s m c cX8_isUneven 5 args yX8_isUneven.cls G) (Y : My meth (some .boolean)) {d9 : Nat} (ihr : ∀ {S : Hp} {x0 : Nat} {x1 : Int32} {x2 : Int32} {Φ : Hp → Int32 → Prop}, rec S x0 x1 x2 Φ → gM l yX8_isUneven cX8_isUneven 5 (some .boolean) (rm_X8_isUneven d9) [.ref x0, .int x1, .int x2] G S (PI Φ))  : ∀ (S : Hp) (v3 : Int32) (H : Heap) (locs : List Loc) (ls : Array Slot), wX8_isUneven_b63 rec x0 x1 x2 Φ S v3 → Ok G S H → va_S (Ab G.b) s.heap H locs → lv_has ls 5 [(0, .ref x0), (1, .int x1), (2, .int x2), (3, .int v3)] → W p l e (rm_X8_isUneven (d9 + 1)) s m args below meth c H locs 0 0 (MQ below (gQ G (PI Φ)) args s (rm_X8_isUneven (d9 + 1)).cells (rm_X8_isUneven (d9 + 1)).slots (Ab G.b)) (F0 m 63 ls []) := by
  intro S v3 H locs ls h hO hS hl
  unfold wX8_isUneven_b63 at h
  refine lv_iconst (v := 0) C0.1 C0.2.1 dX8_isUneven_63 (by decide) ?_
  exact bX8_isUneven_b64 C0 Y ihr _ _ _ _ _ _ h hO hS (lv_sub hl [0, 1, 2, 3] rfl)
def wX8_isUneven_b50 (rec : Hp → Nat → Int32 → Int32 → (Hp → Int32 → Prop) → Prop) (x0 : Nat) (x1 : Int32) (x2 : Int32) (Φ : Hp → Int32 → Prop) (S : Hp) (v3 : Int32) : Prop := isA S x0 8 ∧ ∃ a2, S.FR 528 x0 = some a2 ∧ isA S a2 23 ∧ vp_in v3 (S.N a2) ∧ ((¬ (S.AI a2 v3.toNatClampNeg) = 0 → wX8_isUneven_b63 rec x0 x1 x2 Φ S v3) ∧ ((S.AI a2 v3.toNatClampNeg) = 0 → wX8_isUneven_b64 rec x0 x1 x2 Φ S v3 1))
set_option maxHeartbeats 4000000 in
set_option maxRecDepth 100000 in
theorem bX8_isUneven_b50 {p : Program} {l : Launch} {e : Env} {s : State} {m : MethodId} {args : Array Value} {below : List Frame} {meth : Method} {c : Code} {G : Gw} {rec : Hp → Nat → Int32 → Int32 → (Hp → Int32 → Prop) → Prop} {x0 : Nat} {x1 : Int32} {x2 : Int32} {Φ : Hp → Int32 → Prop} (C0 : Mx p s m c cX8_isUneven 5 args yX8_isUneven.cls G) (Y : My meth (some .boolean)) {d9 : Nat} (ihr : ∀ {S : Hp} {x0 : Nat} {x1 : Int32} {x2 : Int32} {Φ : Hp → Int32 → Prop}, rec S x0 x1 x2 Φ → gM l yX8_isUneven cX8_isUneven 5 (some .boolean) (rm_X8_isUneven d9) [.ref x0, .int x1, .int x2] G S (PI Φ))  : ∀ (S : Hp) (v3 : Int32) (H : Heap) (locs : List Loc) (ls : Array Slot), wX8_isUneven_b50 rec x0 x1 x2 Φ S v3 → Ok G S H → va_S (Ab G.b) s.heap H locs → lv_has ls 5 [(0, .ref x0), (1, .int x1), (2, .int x2), (3, .int v3)] → W p l e (rm_X8_isUneven (d9 + 1)) s m args below meth c H locs 0 0 (MQ below (gQ G (PI Φ)) args s (rm_X8_isUneven (d9 + 1)).cells (rm_X8_isUneven (d9 + 1)).slots (Ab G.b)) (F0 m 50 ls []) := by
  intro S v3 H locs ls h hO hS hl
  unfold wX8_isUneven_b50 at h
  refine lv_aload_n C0.1 C0.2.1 dX8_isUneven_50 rfl (lv_at hl 0 rfl) ?_
  obtain ⟨i1, h⟩ := h
  obtain ⟨a2, ea2, h⟩ := h
  refine g8_16 C0 hO i1 ea2 tb_1344 dX8_isUneven_51 ?_
  refine lv_iload_n C0.1 C0.2.1 dX8_isUneven_54 rfl (lv_at hl 3 rfl) ?_
  obtain ⟨i3, h⟩ := h
  obtain ⟨e4, h⟩ := h
  refine r_zald C0 hO i3 e4 dX8_isUneven_55 ?_
  refine lv_if_ne (tgt := 63) C0.1 C0.2.1 dX8_isUneven_56 (by decide) (fun c5 => ?_) (fun c5 => ?_)
  · have h := h.1 c5
    exact bX8_isUneven_b63 C0 Y ihr _ _ _ _ _ h hO hS (lv_sub hl [0, 1, 2, 3] rfl)
  · have h := h.2 c5
    refine lv_iconst (v := 1) C0.1 C0.2.1 dX8_isUneven_59 (by decide) ?_
    refine lv_goto (tgt := 64) C0.1 C0.2.1 dX8_isUneven_60 (by decide) ?_
    exact bX8_isUneven_b64 C0 Y ihr _ _ _ _ _ _ h hO hS (lv_sub hl [0, 1, 2, 3] rfl)
def wX8_isUneven_b0 (rec : Hp → Nat → Int32 → Int32 → (Hp → Int32 → Prop) → Prop) (x0 : Nat) (x1 : Int32) (x2 : Int32) (Φ : Hp → Int32 → Prop) (S : Hp) : Prop := isA S x0 8 ∧ ∃ a2, S.FR 519 x0 = some a2 ∧ isA S a2 21 ∧ vp_in x1 (S.N a2) ∧ ((x1 = x2 → Φ S 0) ∧ (¬ (x1 = x2) → (((S.AI a2 x1.toNatClampNeg) = (-1) → Φ S 0) ∧ (¬ ((S.AI a2 x1.toNatClampNeg) = (-1)) → wX8_isBehind 20 S x0 x1 x2 (fun S7 r8 => ((¬ r8 = 0 → isA S7 x0 8 ∧ ∃ a11, S7.FR 521 x0 = some a11 ∧ isA S7 a11 20 ∧ vp_in (S.AI a2 x1.toNatClampNeg) (S7.N a11) ∧ (((S7.AI a11 ((S.AI a2 x1.toNatClampNeg).toNatClampNeg)) = 118 → wX8_isUneven_b50 rec x0 x1 x2 Φ S7 (S.AI a2 x1.toNatClampNeg)) ∧ (¬ ((S7.AI a11 ((S.AI a2 x1.toNatClampNeg).toNatClampNeg)) = 118) → ∃ a15, S7.FR 521 x0 = some a15 ∧ isA S7 a15 20 ∧ vp_in (S.AI a2 x1.toNatClampNeg) (S7.N a15) ∧ ((¬ (S7.AI a15 ((S.AI a2 x1.toNatClampNeg).toNatClampNeg)) = 114 → wX8_isUneven_b63 rec x0 x1 x2 Φ S7 (S.AI a2 x1.toNatClampNeg)) ∧ ((S7.AI a15 ((S.AI a2 x1.toNatClampNeg).toNatClampNeg)) = 114 → wX8_isUneven_b50 rec x0 x1 x2 Φ S7 (S.AI a2 x1.toNatClampNeg)))))) ∧ (r8 = 0 → Φ S7 0)))))))
set_option maxHeartbeats 4000000 in
set_option maxRecDepth 100000 in
theorem bX8_isUneven_b0 {p : Program} {l : Launch} {e : Env} {s : State} {m : MethodId} {args : Array Value} {below : List Frame} {meth : Method} {c : Code} {G : Gw} {rec : Hp → Nat → Int32 → Int32 → (Hp → Int32 → Prop) → Prop} {x0 : Nat} {x1 : Int32} {x2 : Int32} {Φ : Hp → Int32 → Prop} (C0 : Mx p s m c cX8_isUneven 5 args yX8_isUneven.cls G) (Y : My meth (some .boolean)) {d9 : Nat} (ihr : ∀ {S : Hp} {x0 : Nat} {x1 : Int32} {x2 : Int32} {Φ : Hp → Int32 → Prop}, rec S x0 x1 x2 Φ → gM l yX8_isUneven cX8_isUneven 5 (some .boolean) (rm_X8_isUneven d9) [.ref x0, .int x1, .int x2] G S (PI Φ))  : ∀ (S : Hp) (H : Heap) (locs : List Loc) (ls : Array Slot), wX8_isUneven_b0 rec x0 x1 x2 Φ S → Ok G S H → va_S (Ab G.b) s.heap H locs → lv_has ls 5 [(0, .ref x0), (1, .int x1), (2, .int x2)] → W p l e (rm_X8_isUneven (d9 + 1)) s m args below meth c H locs 0 0 (MQ below (gQ G (PI Φ)) args s (rm_X8_isUneven (d9 + 1)).cells (rm_X8_isUneven (d9 + 1)).slots (Ab G.b)) (F0 m 0 ls []) := by
  intro S H locs ls h hO hS hl
  unfold wX8_isUneven_b0 at h
  refine lv_aload_n C0.1 C0.2.1 dX8_isUneven_0 rfl (lv_at hl 0 rfl) ?_
  obtain ⟨i1, h⟩ := h
  obtain ⟨a2, ea2, h⟩ := h
  refine g8_7 C0 hO i1 ea2 tb_1335 dX8_isUneven_1 ?_
  refine lv_iload_n C0.1 C0.2.1 dX8_isUneven_4 rfl (lv_at hl 1 rfl) ?_
  obtain ⟨i3, h⟩ := h
  obtain ⟨e4, h⟩ := h
  refine r_iald C0 hO i3 e4 dX8_isUneven_5 ?_
  refine lv_istore_n C0.1 C0.2.1 dX8_isUneven_6 rfl hl (by decide) rfl (fun ls hl => ?_)
  refine lv_iload_n C0.1 C0.2.1 dX8_isUneven_7 rfl (lv_at hl 2 rfl) ?_
  refine lv_iload_n C0.1 C0.2.1 dX8_isUneven_8 rfl (lv_at hl 3 rfl) ?_
  refine lv_icmp_eq (tgt := 26) C0.1 C0.2.1 dX8_isUneven_9 (by decide) (fun c5 => ?_) (fun c5 => ?_)
  · have h := h.1 c5
    refine lv_iconst (v := 0) C0.1 C0.2.1 dX8_isUneven_26 (by decide) ?_
    exact e_Z C0 Y hO hS rfl h (Nat.le_refl _) (Nat.le_refl _) dX8_isUneven_27
  · have h := h.2 c5
    refine lv_iload_n C0.1 C0.2.1 dX8_isUneven_12 rfl (lv_at hl 0 rfl) ?_
    refine lv_iconst (v := (-1)) C0.1 C0.2.1 dX8_isUneven_13 (by decide) ?_
    refine lv_icmp_eq (tgt := 26) C0.1 C0.2.1 dX8_isUneven_14 (by decide) (fun c6 => ?_) (fun c6 => ?_)
    · have h := h.1 c6
      refine lv_iconst (v := 0) C0.1 C0.2.1 dX8_isUneven_26 (by decide) ?_
      exact e_Z C0 Y hO hS rfl h (Nat.le_refl _) (Nat.le_refl _) dX8_isUneven_27
    · have h := h.2 c6
      refine lv_aload_n C0.1 C0.2.1 dX8_isUneven_17 rfl (lv_at hl 1 rfl) ?_
      refine lv_iload_n C0.1 C0.2.1 dX8_isUneven_18 rfl (lv_at hl 2 rfl) ?_
      refine lv_iload_n C0.1 C0.2.1 dX8_isUneven_19 rfl (lv_at hl 3 rfl) ?_
      refine c_V C0 hO hS (mX8_isBehind 20 h) i1 (by decide) rfl rfl tb_1522 tb_1524 tb_46 tb_81 tb_1525 hd_X8_isBehind rfl ⟨⟨by simp only [rm_X8_isUneven, rm_X8_isBehind]; omega, by simp only [rm_X8_isUneven, rm_X8_isBehind]; omega⟩, Nat.le_refl _, Nat.le_refl _⟩ hl.1 rfl (Nat.le_of_ble_eq_true rfl) dX8_isUneven_20 (kI (fun r8 S7 H locs h hO hS => ?_))
      refine lv_if_ne (tgt := 28) C0.1 C0.2.1 dX8_isUneven_23 (by decide) (fun c9 => ?_) (fun c9 => ?_)
      · have h := h.1 c9
        refine lv_aload_n C0.1 C0.2.1 dX8_isUneven_28 rfl (lv_at hl 1 rfl) ?_
        obtain ⟨i10, h⟩ := h
        obtain ⟨a11, ea11, h⟩ := h
        refine g8_9 C0 hO i10 ea11 tb_1337 dX8_isUneven_29 ?_
        refine lv_iload_n C0.1 C0.2.1 dX8_isUneven_32 rfl (lv_at hl 0 rfl) ?_
        obtain ⟨i12, h⟩ := h
        obtain ⟨e13, h⟩ := h
        refine r_cald C0 hO i12 e13 dX8_isUneven_33 ?_
        refine lv_bipush (v := 118) C0.1 C0.2.1 dX8_isUneven_34 (by decide) ?_
        refine lv_icmp_eq (tgt := 50) C0.1 C0.2.1 dX8_isUneven_36 (by decide) (fun c14 => ?_) (fun c14 => ?_)
        · have h := h.1 c14
          exact bX8_isUneven_b50 C0 Y ihr _ _ _ _ _ h hO hS (lv_sub hl [1, 2, 3, 0] rfl)
        · have h := h.2 c14
          refine lv_aload_n C0.1 C0.2.1 dX8_isUneven_39 rfl (lv_at hl 1 rfl) ?_
          obtain ⟨a15, ea15, h⟩ := h
          refine g8_9 C0 hO i10 ea15 tb_1337 dX8_isUneven_40 ?_
          refine lv_iload_n C0.1 C0.2.1 dX8_isUneven_43 rfl (lv_at hl 0 rfl) ?_
          obtain ⟨i16, h⟩ := h
          obtain ⟨e17, h⟩ := h
          refine r_cald C0 hO i16 e17 dX8_isUneven_44 ?_
          refine lv_bipush (v := 114) C0.1 C0.2.1 dX8_isUneven_45 (by decide) ?_
          refine lv_icmp_ne (tgt := 63) C0.1 C0.2.1 dX8_isUneven_47 (by decide) (fun c18 => ?_) (fun c18 => ?_)
          · have h := h.1 c18
            exact bX8_isUneven_b63 C0 Y ihr _ _ _ _ _ h hO hS (lv_sub hl [1, 2, 3, 0] rfl)
          · have h := h.2 c18
            exact bX8_isUneven_b50 C0 Y ihr _ _ _ _ _ h hO hS (lv_sub hl [1, 2, 3, 0] rfl)
      · have h := h.2 c9
        refine lv_iconst (v := 0) C0.1 C0.2.1 dX8_isUneven_26 (by decide) ?_
        exact e_Z C0 Y hO hS rfl h (Nat.le_refl _) (Nat.le_refl _) dX8_isUneven_27
def wX8_isUneven : Nat → Hp → Nat → Int32 → Int32 → (Hp → Int32 → Prop) → Prop
  | 0 => fun _ _ _ _ _ => False
  | d + 1 => fun S x0 x1 x2 Φ => wX8_isUneven_b0 (wX8_isUneven d) x0 x1 x2 Φ S
set_option maxRecDepth 100000 in
theorem mX8_isUneven {l : Launch} {G : Gw} : ∀ (d : Nat) {S : Hp} {x0 : Nat} {x1 : Int32} {x2 : Int32} {Φ : Hp → Int32 → Prop}, wX8_isUneven d S x0 x1 x2 Φ → gM l yX8_isUneven cX8_isUneven 5 (some .boolean) (rm_X8_isUneven d) [.ref x0, .int x1, .int x2] G S (PI Φ) := by
  intro d
  induction d with
  | zero => intro S x0 x1 x2 Φ h; exact (h : False).elim
  | succ d9 ih =>
    intro S x0 x1 x2 Φ h
    unfold gM
    refine Met.ofW (cc := cX8_isUneven) (maxL := 5) (ret := (some .boolean)) (by decide) rfl ?_
    intro p e s m args below meth c s₁ B hml hv
    obtain ⟨rfl, hw⟩ := hv
    obtain ⟨C0, Y, hO⟩ := mx_of B hml hw
    have hS : va_S (Ab G.b) s.heap s.heap [] := va_S.rf
    have hl := lv_entry ([.ref x0, .int x1, .int x2]) (n := 5) (Nat.le_of_ble_eq_true rfl)
    rw [lg_entry_eq]
    generalize (lg_sl ([.ref x0, .int x1, .int x2]) ++ List.replicate (5 - (lg_sl ([.ref x0, .int x1, .int x2])).length) Slot.unset).toArray = ls at hl ⊢
    have hl : lv_has ls 5 [(0, .ref x0), (1, .int x1), (2, .int x2)] := hl
    exact bX8_isUneven_b0 C0 Y (fun h => ih h) S _ _ _ h hO hS hl

def rm_X8_turns (d : Nat) : Room := { frames := 4 + d, cells := 0, slots := 0, locals := 102 + d * 31 }
def wX8_turns_b46 (rec : Hp → Nat → Int32 → Int32 → (Hp → Prop) → Prop) (x0 : Nat) (x1 : Int32) (x2 : Int32) (Φ : Hp → Prop) (S : Hp) (z0 : Nat) (z1 : Int64) : Prop := isA S z0 8 ∧ wX8_result S z0 z1 1 (fun S1 => Φ S1)
set_option maxHeartbeats 4000000 in
set_option maxRecDepth 100000 in
theorem bX8_turns_b46 {p : Program} {l : Launch} {e : Env} {s : State} {m : MethodId} {args : Array Value} {below : List Frame} {meth : Method} {c : Code} {G : Gw} {rec : Hp → Nat → Int32 → Int32 → (Hp → Prop) → Prop} {x0 : Nat} {x1 : Int32} {x2 : Int32} {Φ : Hp → Prop} (C0 : Mx p s m c cX8_turns 12 args yX8_turns.cls G) (Y : My meth none) {d9 : Nat} (ihr : ∀ {S : Hp} {x0 : Nat} {x1 : Int32} {x2 : Int32} {Φ : Hp → Prop}, rec S x0 x1 x2 Φ → gM l yX8_turns cX8_turns 12 none (rm_X8_turns d9) [.ref x0, .int x1, .int x2] G S (PV Φ))  : ∀ (S : Hp) (z0 : Nat) (z1 : Int64) (H : Heap) (locs : List Loc) (ls : Array Slot), wX8_turns_b46 rec x0 x1 x2 Φ S z0 z1 → Ok G S H → va_S (Ab G.b) s.heap H locs → lv_has ls 12 [(0, .ref x0), (1, .int x1), (2, .int x2)] → W p l e (rm_X8_turns (d9 + 1)) s m args below meth c H locs 0 0 (MQ below (gQ G (PV Φ)) args s (rm_X8_turns (d9 + 1)).cells (rm_X8_turns (d9 + 1)).slots (Ab G.b)) (F0 m 46 ls [.long z1, .ref z0]) := by
  intro S z0 z1 H locs ls h hO hS hl
  unfold wX8_turns_b46 at h
  refine lv_lconst (v := 1) C0.1 C0.2.1 dX8_turns_46 (by decide) ?_
  obtain ⟨i2, h⟩ := h
  refine c_V C0 hO hS (mX8_result h) i2 (by decide) rfl rfl tb_1532 tb_1534 tb_48 tb_81 tb_1535 hd_X8_result rfl ⟨⟨by simp only [rm_X8_turns, rm_X8_result]; omega, by simp only [rm_X8_turns, rm_X8_result]; omega⟩, Nat.le_refl _, Nat.le_refl _⟩ hl.1 rfl (Nat.le_of_ble_eq_true rfl) dX8_turns_47 (kV (fun S1 H locs h hO hS => ?_))
  exact e_V C0 Y hO hS h (Nat.le_refl _) (Nat.le_refl _) dX8_turns_50
def wX8_turns_b35 (rec : Hp → Nat → Int32 → Int32 → (Hp → Prop) → Prop) (x0 : Nat) (x1 : Int32) (x2 : Int32) (Φ : Hp → Prop) (S : Hp) : Prop := ((¬ x1 = x2 → wX8_turns_b46 rec x0 x1 x2 Φ S x0 0) ∧ (x1 = x2 → wX8_turns_b46 rec x0 x1 x2 Φ S x0 1))
set_option maxHeartbeats 4000000 in
set_option maxRecDepth 100000 in
theorem bX8_turns_b35 {p : Program} {l : Launch} {e : Env} {s : State} {m : MethodId} {args : Array Value} {below : List Frame} {meth : Method} {c : Code} {G : Gw} {rec : Hp → Nat → Int32 → Int32 → (Hp → Prop) → Prop} {x0 : Nat} {x1 : Int32} {x2 : Int32} {Φ : Hp → Prop} (C0 : Mx p s m c cX8_turns 12 args yX8_turns.cls G) (Y : My meth none) {d9 : Nat} (ihr : ∀ {S : Hp} {x0 : Nat} {x1 : Int32} {x2 : Int32} {Φ : Hp → Prop}, rec S x0 x1 x2 Φ → gM l yX8_turns cX8_turns 12 none (rm_X8_turns d9) [.ref x0, .int x1, .int x2] G S (PV Φ))  : ∀ (S : Hp) (H : Heap) (locs : List Loc) (ls : Array Slot), wX8_turns_b35 rec x0 x1 x2 Φ S → Ok G S H → va_S (Ab G.b) s.heap H locs → lv_has ls 12 [(0, .ref x0), (1, .int x1), (2, .int x2)] → W p l e (rm_X8_turns (d9 + 1)) s m args below meth c H locs 0 0 (MQ below (gQ G (PV Φ)) args s (rm_X8_turns (d9 + 1)).cells (rm_X8_turns (d9 + 1)).slots (Ab G.b)) (F0 m 35 ls []) := by
  intro S H locs ls h hO hS hl
  unfold wX8_turns_b35 at h
  refine lv_aload_n C0.1 C0.2.1 dX8_turns_35 rfl (lv_at hl 0 rfl) ?_
  refine lv_iload_n C0.1 C0.2.1 dX8_turns_36 rfl (lv_at hl 1 rfl) ?_
  refine lv_iload_n C0.1 C0.2.1 dX8_turns_37 rfl (lv_at hl 2 rfl) ?_
  refine lv_icmp_ne (tgt := 45) C0.1 C0.2.1 dX8_turns_38 (by decide) (fun c1 => ?_) (fun c1 => ?_)
  · have h := h.1 c1
    refine lv_lconst (v := 0) C0.1 C0.2.1 dX8_turns_45 (by decide) ?_
    exact bX8_turns_b46 C0 Y ihr _ _ _ _ _ _ h hO hS (lv_sub hl [0, 1, 2] rfl)
  · have h := h.2 c1
    refine lv_lconst (v := 1) C0.1 C0.2.1 dX8_turns_41 (by decide) ?_
    refine lv_goto (tgt := 46) C0.1 C0.2.1 dX8_turns_42 (by decide) ?_
    exact bX8_turns_b46 C0 Y ihr _ _ _ _ _ _ h hO hS (lv_sub hl [0, 1, 2] rfl)
def wX8_turns_b217 (rec : Hp → Nat → Int32 → Int32 → (Hp → Prop) → Prop) (x0 : Nat) (x1 : Int32) (x2 : Int32) (Φ : Hp → Prop) (S : Hp) (v4 : Int64) (v6 : Int64) (z0 : Nat) (z1 : Int64) : Prop := isA S x0 8 ∧ isA S z0 8 ∧ wX8_product S z0 z1 (S.FJ 548 x0) v4 v6 (fun S2 => Φ S2)
set_option maxHeartbeats 4000000 in
set_option maxRecDepth 100000 in
theorem bX8_turns_b217 {p : Program} {l : Launch} {e : Env} {s : State} {m : MethodId} {args : Array Value} {below : List Frame} {meth : Method} {c : Code} {G : Gw} {rec : Hp → Nat → Int32 → Int32 → (Hp → Prop) → Prop} {x0 : Nat} {x1 : Int32} {x2 : Int32} {Φ : Hp → Prop} (C0 : Mx p s m c cX8_turns 12 args yX8_turns.cls G) (Y : My meth none) {d9 : Nat} (ihr : ∀ {S : Hp} {x0 : Nat} {x1 : Int32} {x2 : Int32} {Φ : Hp → Prop}, rec S x0 x1 x2 Φ → gM l yX8_turns cX8_turns 12 none (rm_X8_turns d9) [.ref x0, .int x1, .int x2] G S (PV Φ))  : ∀ (S : Hp) (v4 : Int64) (v6 : Int64) (z0 : Nat) (z1 : Int64) (H : Heap) (locs : List Loc) (ls : Array Slot), wX8_turns_b217 rec x0 x1 x2 Φ S v4 v6 z0 z1 → Ok G S H → va_S (Ab G.b) s.heap H locs → lv_has ls 12 [(0, .ref x0), (1, .int x1), (2, .int x2), (4, .long v4), (6, .long v6)] → W p l e (rm_X8_turns (d9 + 1)) s m args below meth c H locs 0 0 (MQ below (gQ G (PV Φ)) args s (rm_X8_turns (d9 + 1)).cells (rm_X8_turns (d9 + 1)).slots (Ab G.b)) (F0 m 217 ls [.long z1, .ref z0]) := by
  intro S v4 v6 z0 z1 H locs ls h hO hS hl
  unfold wX8_turns_b217 at h
  refine lv_aload_n C0.1 C0.2.1 dX8_turns_217 rfl (lv_at hl 0 rfl) ?_
  obtain ⟨i1, h⟩ := h
  refine g8_36 C0 hO i1 tb_1364 dX8_turns_218 ?_
  refine lv_lload C0.1 C0.2.1 dX8_turns_221 (lv_at hl 3 rfl) ?_
  refine lv_lload C0.1 C0.2.1 dX8_turns_223 (lv_at hl 4 rfl) ?_
  obtain ⟨i3, h⟩ := h
  refine c_V C0 hO hS (mX8_product h) i3 (by decide) rfl rfl tb_1544 tb_1546 tb_50 tb_81 tb_1547 hd_X8_product rfl ⟨⟨by simp only [rm_X8_turns, rm_X8_product]; omega, by simp only [rm_X8_turns, rm_X8_product]; omega⟩, Nat.le_refl _, Nat.le_refl _⟩ hl.1 rfl (Nat.le_of_ble_eq_true rfl) dX8_turns_225 (kV (fun S2 H locs h hO hS => ?_))
  exact e_V C0 Y hO hS h (Nat.le_refl _) (Nat.le_refl _) dX8_turns_228
def wX8_turns_b193 (rec : Hp → Nat → Int32 → Int32 → (Hp → Prop) → Prop) (x0 : Nat) (x1 : Int32) (x2 : Int32) (Φ : Hp → Prop) (S : Hp) (v3 : Int32) (v4 : Int64) (v6 : Int64) : Prop := isA S x0 8 ∧ ∃ a2, S.FR 521 x0 = some a2 ∧ isA S a2 20 ∧ vp_in v3 (S.N a2) ∧ ((¬ (S.AI a2 v3.toNatClampNeg) = 103 → wX8_turns_b217 rec x0 x1 x2 Φ S v4 v6 x0 (S.FJ 547 x0)) ∧ ((S.AI a2 v3.toNatClampNeg) = 103 → wX8_turns_b217 rec x0 x1 x2 Φ S v4 v6 x0 (-(S.FJ 547 x0))))
set_option maxHeartbeats 4000000 in
set_option maxRecDepth 100000 in
theorem bX8_turns_b193 {p : Program} {l : Launch} {e : Env} {s : State} {m : MethodId} {args : Array Value} {below : List Frame} {meth : Method} {c : Code} {G : Gw} {rec : Hp → Nat → Int32 → Int32 → (Hp → Prop) → Prop} {x0 : Nat} {x1 : Int32} {x2 : Int32} {Φ : Hp → Prop} (C0 : Mx p s m c cX8_turns 12 args yX8_turns.cls G) (Y : My meth none) {d9 : Nat} (ihr : ∀ {S : Hp} {x0 : Nat} {x1 : Int32} {x2 : Int32} {Φ : Hp → Prop}, rec S x0 x1 x2 Φ → gM l yX8_turns cX8_turns 12 none (rm_X8_turns d9) [.ref x0, .int x1, .int x2] G S (PV Φ))  : ∀ (S : Hp) (v3 : Int32) (v4 : Int64) (v6 : Int64) (H : Heap) (locs : List Loc) (ls : Array Slot), wX8_turns_b193 rec x0 x1 x2 Φ S v3 v4 v6 → Ok G S H → va_S (Ab G.b) s.heap H locs → lv_has ls 12 [(0, .ref x0), (1, .int x1), (2, .int x2), (3, .int v3), (4, .long v4), (6, .long v6)] → W p l e (rm_X8_turns (d9 + 1)) s m args below meth c H locs 0 0 (MQ below (gQ G (PV Φ)) args s (rm_X8_turns (d9 + 1)).cells (rm_X8_turns (d9 + 1)).slots (Ab G.b)) (F0 m 193 ls []) := by
  intro S v3 v4 v6 H locs ls h hO hS hl
  unfold wX8_turns_b193 at h
  refine lv_aload_n C0.1 C0.2.1 dX8_turns_193 rfl (lv_at hl 0 rfl) ?_
  refine lv_aload_n C0.1 C0.2.1 dX8_turns_194 rfl (lv_at hl 0 rfl) ?_
  obtain ⟨i1, h⟩ := h
  obtain ⟨a2, ea2, h⟩ := h
  refine g8_9 C0 hO i1 ea2 tb_1337 dX8_turns_195 ?_
  refine lv_iload_n C0.1 C0.2.1 dX8_turns_198 rfl (lv_at hl 3 rfl) ?_
  obtain ⟨i3, h⟩ := h
  obtain ⟨e4, h⟩ := h
  refine r_cald C0 hO i3 e4 dX8_turns_199 ?_
  refine lv_bipush (v := 103) C0.1 C0.2.1 dX8_turns_200 (by decide) ?_
  refine lv_icmp_ne (tgt := 213) C0.1 C0.2.1 dX8_turns_202 (by decide) (fun c5 => ?_) (fun c5 => ?_)
  · have h := h.1 c5
    refine lv_aload_n C0.1 C0.2.1 dX8_turns_213 rfl (lv_at hl 0 rfl) ?_
    refine g8_35 C0 hO i1 tb_1363 dX8_turns_214 ?_
    exact bX8_turns_b217 C0 Y ihr _ _ _ _ _ _ _ _ h hO hS (lv_sub hl [0, 1, 2, 4, 5] rfl)
  · have h := h.2 c5
    refine lv_aload_n C0.1 C0.2.1 dX8_turns_205 rfl (lv_at hl 0 rfl) ?_
    refine g8_35 C0 hO i1 tb_1363 dX8_turns_206 ?_
    refine lv_lneg C0.1 C0.2.1 dX8_turns_209 ?_
    refine lv_goto (tgt := 217) C0.1 C0.2.1 dX8_turns_210 (by decide) ?_
    exact bX8_turns_b217 C0 Y ihr _ _ _ _ _ _ _ _ h hO hS (lv_sub hl [0, 1, 2, 4, 5] rfl)
def wX8_turns_b0 (rec : Hp → Nat → Int32 → Int32 → (Hp → Prop) → Prop) (x0 : Nat) (x1 : Int32) (x2 : Int32) (Φ : Hp → Prop) (S : Hp) : Prop := isA S x0 8 ∧ ∃ a2, S.FR 519 x0 = some a2 ∧ isA S a2 21 ∧ vp_in x1 (S.N a2) ∧ ((x1 = x2 → wX8_turns_b35 rec x0 x1 x2 Φ S) ∧ (¬ (x1 = x2) → (((S.AI a2 x1.toNatClampNeg) = (-1) → wX8_turns_b35 rec x0 x1 x2 Φ S) ∧ (¬ ((S.AI a2 x1.toNatClampNeg) = (-1)) → ∃ a7, S.FR 528 x0 = some a7 ∧ isA S a7 23 ∧ vp_in (S.AI a2 x1.toNatClampNeg) (S.N a7) ∧ ((¬ (S.AI a7 ((S.AI a2 x1.toNatClampNeg).toNatClampNeg)) = 0 → wX8_turns_b35 rec x0 x1 x2 Φ S) ∧ ((S.AI a7 ((S.AI a2 x1.toNatClampNeg).toNatClampNeg)) = 0 → ∃ a11, S.FR 527 x0 = some a11 ∧ isA S a11 23 ∧ vp_in (S.AI a2 x1.toNatClampNeg) (S.N a11) ∧ (((S.AI a11 ((S.AI a2 x1.toNatClampNeg).toNatClampNeg)) = 0 → ∃ a15, S.FR 525 x0 = some a15 ∧ isA S a15 21 ∧ vp_in (S.AI a2 x1.toNatClampNeg) (S.N a15) ∧ ∃ a18, S.FR 526 x0 = some a18 ∧ isA S a18 21 ∧ vp_in (S.AI a2 x1.toNatClampNeg) (S.N a18) ∧ ∃ a21, S.FR 522 x0 = some a21 ∧ isA S a21 21 ∧ vp_in (S.AI a2 x1.toNatClampNeg) (S.N a21) ∧ rec S x0 (S.AI a21 ((S.AI a2 x1.toNatClampNeg).toNatClampNeg)) x2 (fun S24 => isA S24 x0 8 ∧ ∃ a26, S24.FR 521 x0 = some a26 ∧ isA S24 a26 20 ∧ vp_in (S.AI a2 x1.toNatClampNeg) (S24.N a26) ∧ ((¬ (S24.AI a26 ((S.AI a2 x1.toNatClampNeg).toNatClampNeg)) = 112 → ∃ a30, S24.FR 521 x0 = some a30 ∧ isA S24 a30 20 ∧ vp_in (S.AI a2 x1.toNatClampNeg) (S24.N a30) ∧ (((S24.AI a30 ((S.AI a2 x1.toNatClampNeg).toNatClampNeg)) = 103 → wX8_turns_b193 rec x0 x1 x2 Φ S24 (S.AI a2 x1.toNatClampNeg) ((S.AI a15 ((S.AI a2 x1.toNatClampNeg).toNatClampNeg)).toInt64) ((S.AI a18 ((S.AI a2 x1.toNatClampNeg).toNatClampNeg)).toInt64)) ∧ (¬ ((S24.AI a30 ((S.AI a2 x1.toNatClampNeg).toNatClampNeg)) = 103) → ∃ a34, S24.FR 521 x0 = some a34 ∧ isA S24 a34 20 ∧ vp_in (S.AI a2 x1.toNatClampNeg) (S24.N a34) ∧ ((¬ (S24.AI a34 ((S.AI a2 x1.toNatClampNeg).toNatClampNeg)) = 105 → Φ S24) ∧ ((S24.AI a34 ((S.AI a2 x1.toNatClampNeg).toNatClampNeg)) = 105 → wX8_turns_b193 rec x0 x1 x2 Φ S24 (S.AI a2 x1.toNatClampNeg) ((S.AI a15 ((S.AI a2 x1.toNatClampNeg).toNatClampNeg)).toInt64) ((S.AI a18 ((S.AI a2 x1.toNatClampNeg).toNatClampNeg)).toInt64)))))) ∧ ((S24.AI a26 ((S.AI a2 x1.toNatClampNeg).toNatClampNeg)) = 112 → wX8_product S24 x0 (S24.FJ 547 x0) (S24.FJ 548 x0) ((S.AI a15 ((S.AI a2 x1.toNatClampNeg).toNatClampNeg)).toInt64) (((S.AI a15 ((S.AI a2 x1.toNatClampNeg).toNatClampNeg)).toInt64) + ((S.AI a18 ((S.AI a2 x1.toNatClampNeg).toNatClampNeg)).toInt64)) (fun S38 => isA S38 x0 8 ∧ ∃ a40, S38.FR 523 x0 = some a40 ∧ isA S38 a40 21 ∧ vp_in (S.AI a2 x1.toNatClampNeg) (S38.N a40) ∧ rec S38 x0 (S38.AI a40 ((S.AI a2 x1.toNatClampNeg).toNatClampNeg)) x2 (fun S43 => isA S43 x0 8 ∧ wX8_product S43 x0 (S43.FJ 547 x0) (S43.FJ 548 x0) ((S.AI a18 ((S.AI a2 x1.toNatClampNeg).toNatClampNeg)).toInt64) (((S.AI a15 ((S.AI a2 x1.toNatClampNeg).toNatClampNeg)).toInt64) + ((S.AI a18 ((S.AI a2 x1.toNatClampNeg).toNatClampNeg)).toInt64)) (fun S45 => isA S45 x0 8 ∧ wX8_sum S45 x0 (S38.FJ 547 x0) (S38.FJ 548 x0) (S45.FJ 547 x0) (S45.FJ 548 x0) (fun S47 => Φ S47)))))))) ∧ (¬ ((S.AI a11 ((S.AI a2 x1.toNatClampNeg).toNatClampNeg)) = 0) → wX8_turns_b35 rec x0 x1 x2 Φ S))))))))
set_option maxHeartbeats 4000000 in
set_option maxRecDepth 100000 in
theorem bX8_turns_b0 {p : Program} {l : Launch} {e : Env} {s : State} {m : MethodId} {args : Array Value} {below : List Frame} {meth : Method} {c : Code} {G : Gw} {rec : Hp → Nat → Int32 → Int32 → (Hp → Prop) → Prop} {x0 : Nat} {x1 : Int32} {x2 : Int32} {Φ : Hp → Prop} (C0 : Mx p s m c cX8_turns 12 args yX8_turns.cls G) (Y : My meth none) {d9 : Nat} (ihr : ∀ {S : Hp} {x0 : Nat} {x1 : Int32} {x2 : Int32} {Φ : Hp → Prop}, rec S x0 x1 x2 Φ → gM l yX8_turns cX8_turns 12 none (rm_X8_turns d9) [.ref x0, .int x1, .int x2] G S (PV Φ))  : ∀ (S : Hp) (H : Heap) (locs : List Loc) (ls : Array Slot), wX8_turns_b0 rec x0 x1 x2 Φ S → Ok G S H → va_S (Ab G.b) s.heap H locs → lv_has ls 12 [(0, .ref x0), (1, .int x1), (2, .int x2)] → W p l e (rm_X8_turns (d9 + 1)) s m args below meth c H locs 0 0 (MQ below (gQ G (PV Φ)) args s (rm_X8_turns (d9 + 1)).cells (rm_X8_turns (d9 + 1)).slots (Ab G.b)) (F0 m 0 ls []) := by
  intro S H locs ls h hO hS hl
  unfold wX8_turns_b0 at h
  refine lv_aload_n C0.1 C0.2.1 dX8_turns_0 rfl (lv_at hl 0 rfl) ?_
  obtain ⟨i1, h⟩ := h
  obtain ⟨a2, ea2, h⟩ := h
  refine g8_7 C0 hO i1 ea2 tb_1335 dX8_turns_1 ?_
  refine lv_iload_n C0.1 C0.2.1 dX8_turns_4 rfl (lv_at hl 1 rfl) ?_
  obtain ⟨i3, h⟩ := h
  obtain ⟨e4, h⟩ := h
  refine r_iald C0 hO i3 e4 dX8_turns_5 ?_
  refine lv_istore_n C0.1 C0.2.1 dX8_turns_6 rfl hl (by decide) rfl (fun ls hl => ?_)
  refine lv_iload_n C0.1 C0.2.1 dX8_turns_7 rfl (lv_at hl 2 rfl) ?_
  refine lv_iload_n C0.1 C0.2.1 dX8_turns_8 rfl (lv_at hl 3 rfl) ?_
  refine lv_icmp_eq (tgt := 35) C0.1 C0.2.1 dX8_turns_9 (by decide) (fun c5 => ?_) (fun c5 => ?_)
  · have h := h.1 c5
    exact bX8_turns_b35 C0 Y ihr _ _ _ _ h hO hS (lv_sub hl [1, 2, 3] rfl)
  · have h := h.2 c5
    refine lv_iload_n C0.1 C0.2.1 dX8_turns_12 rfl (lv_at hl 0 rfl) ?_
    refine lv_iconst (v := (-1)) C0.1 C0.2.1 dX8_turns_13 (by decide) ?_
    refine lv_icmp_eq (tgt := 35) C0.1 C0.2.1 dX8_turns_14 (by decide) (fun c6 => ?_) (fun c6 => ?_)
    · have h := h.1 c6
      exact bX8_turns_b35 C0 Y ihr _ _ _ _ h hO hS (lv_sub hl [1, 2, 3] rfl)
    · have h := h.2 c6
      refine lv_aload_n C0.1 C0.2.1 dX8_turns_17 rfl (lv_at hl 1 rfl) ?_
      obtain ⟨a7, ea7, h⟩ := h
      refine g8_16 C0 hO i1 ea7 tb_1344 dX8_turns_18 ?_
      refine lv_iload_n C0.1 C0.2.1 dX8_turns_21 rfl (lv_at hl 0 rfl) ?_
      obtain ⟨i8, h⟩ := h
      obtain ⟨e9, h⟩ := h
      refine r_zald C0 hO i8 e9 dX8_turns_22 ?_
      refine lv_if_ne (tgt := 35) C0.1 C0.2.1 dX8_turns_23 (by decide) (fun c10 => ?_) (fun c10 => ?_)
      · have h := h.1 c10
        exact bX8_turns_b35 C0 Y ihr _ _ _ _ h hO hS (lv_sub hl [1, 2, 3] rfl)
      · have h := h.2 c10
        refine lv_aload_n C0.1 C0.2.1 dX8_turns_26 rfl (lv_at hl 1 rfl) ?_
        obtain ⟨a11, ea11, h⟩ := h
        refine g8_15 C0 hO i1 ea11 tb_1343 dX8_turns_27 ?_
        refine lv_iload_n C0.1 C0.2.1 dX8_turns_30 rfl (lv_at hl 0 rfl) ?_
        obtain ⟨i12, h⟩ := h
        obtain ⟨e13, h⟩ := h
        refine r_zald C0 hO i12 e13 dX8_turns_31 ?_
        refine lv_if_eq (tgt := 51) C0.1 C0.2.1 dX8_turns_32 (by decide) (fun c14 => ?_) (fun c14 => ?_)
        · have h := h.1 c14
          refine lv_aload_n C0.1 C0.2.1 dX8_turns_51 rfl (lv_at hl 1 rfl) ?_
          obtain ⟨a15, ea15, h⟩ := h
          refine g8_13 C0 hO i1 ea15 tb_1341 dX8_turns_52 ?_
          refine lv_iload_n C0.1 C0.2.1 dX8_turns_55 rfl (lv_at hl 0 rfl) ?_
          obtain ⟨i16, h⟩ := h
          obtain ⟨e17, h⟩ := h
          refine r_iald C0 hO i16 e17 dX8_turns_56 ?_
          refine lv_i2l C0.1 C0.2.1 dX8_turns_57 rfl ?_
          refine lv_lstore C0.1 C0.2.1 dX8_turns_58 hl (by decide) rfl (fun ls hl => ?_)
          refine lv_aload_n C0.1 C0.2.1 dX8_turns_60 rfl (lv_at hl 2 rfl) ?_
          obtain ⟨a18, ea18, h⟩ := h
          refine g8_14 C0 hO i1 ea18 tb_1342 dX8_turns_61 ?_
          refine lv_iload_n C0.1 C0.2.1 dX8_turns_64 rfl (lv_at hl 1 rfl) ?_
          obtain ⟨i19, h⟩ := h
          obtain ⟨e20, h⟩ := h
          refine r_iald C0 hO i19 e20 dX8_turns_65 ?_
          refine lv_i2l C0.1 C0.2.1 dX8_turns_66 rfl ?_
          refine lv_lstore C0.1 C0.2.1 dX8_turns_67 hl (by decide) rfl (fun ls hl => ?_)
          refine lv_aload_n C0.1 C0.2.1 dX8_turns_69 rfl (lv_at hl 3 rfl) ?_
          refine lv_aload_n C0.1 C0.2.1 dX8_turns_70 rfl (lv_at hl 3 rfl) ?_
          obtain ⟨a21, ea21, h⟩ := h
          refine g8_10 C0 hO i1 ea21 tb_1338 dX8_turns_71 ?_
          refine lv_iload_n C0.1 C0.2.1 dX8_turns_74 rfl (lv_at hl 2 rfl) ?_
          obtain ⟨i22, h⟩ := h
          obtain ⟨e23, h⟩ := h
          refine r_iald C0 hO i22 e23 dX8_turns_75 ?_
          refine lv_iload_n C0.1 C0.2.1 dX8_turns_76 rfl (lv_at hl 5 rfl) ?_
          refine c_V C0 hO hS (ihr h) i1 (by decide) rfl rfl tb_1583 tb_1585 tb_56 tb_81 tb_1586 hd_X8_turns rfl ⟨⟨by simp only [rm_X8_turns]; omega, by simp only [rm_X8_turns]; omega⟩, Nat.le_refl _, Nat.le_refl _⟩ hl.1 rfl (Nat.le_of_ble_eq_true rfl) dX8_turns_77 (kV (fun S24 H locs h hO hS => ?_))
          refine lv_aload_n C0.1 C0.2.1 dX8_turns_80 rfl (lv_at hl 3 rfl) ?_
          obtain ⟨i25, h⟩ := h
          obtain ⟨a26, ea26, h⟩ := h
          refine g8_9 C0 hO i25 ea26 tb_1337 dX8_turns_81 ?_
          refine lv_iload_n C0.1 C0.2.1 dX8_turns_84 rfl (lv_at hl 2 rfl) ?_
          obtain ⟨i27, h⟩ := h
          obtain ⟨e28, h⟩ := h
          refine r_cald C0 hO i27 e28 dX8_turns_85 ?_
          refine lv_bipush (v := 112) C0.1 C0.2.1 dX8_turns_86 (by decide) ?_
          refine lv_icmp_ne (tgt := 171) C0.1 C0.2.1 dX8_turns_88 (by decide) (fun c29 => ?_) (fun c29 => ?_)
          · have h := h.1 c29
            refine lv_aload_n C0.1 C0.2.1 dX8_turns_171 rfl (lv_at hl 3 rfl) ?_
            obtain ⟨a30, ea30, h⟩ := h
            refine g8_9 C0 hO i25 ea30 tb_1337 dX8_turns_172 ?_
            refine lv_iload_n C0.1 C0.2.1 dX8_turns_175 rfl (lv_at hl 2 rfl) ?_
            obtain ⟨i31, h⟩ := h
            obtain ⟨e32, h⟩ := h
            refine r_cald C0 hO i31 e32 dX8_turns_176 ?_
            refine lv_bipush (v := 103) C0.1 C0.2.1 dX8_turns_177 (by decide) ?_
            refine lv_icmp_eq (tgt := 193) C0.1 C0.2.1 dX8_turns_179 (by decide) (fun c33 => ?_) (fun c33 => ?_)
            · have h := h.1 c33
              exact bX8_turns_b193 C0 Y ihr _ _ _ _ _ _ _ h hO hS (lv_sub hl [3, 4, 5, 2, 1, 0] rfl)
            · have h := h.2 c33
              refine lv_aload_n C0.1 C0.2.1 dX8_turns_182 rfl (lv_at hl 3 rfl) ?_
              obtain ⟨a34, ea34, h⟩ := h
              refine g8_9 C0 hO i25 ea34 tb_1337 dX8_turns_183 ?_
              refine lv_iload_n C0.1 C0.2.1 dX8_turns_186 rfl (lv_at hl 2 rfl) ?_
              obtain ⟨i35, h⟩ := h
              obtain ⟨e36, h⟩ := h
              refine r_cald C0 hO i35 e36 dX8_turns_187 ?_
              refine lv_bipush (v := 105) C0.1 C0.2.1 dX8_turns_188 (by decide) ?_
              refine lv_icmp_ne (tgt := 228) C0.1 C0.2.1 dX8_turns_190 (by decide) (fun c37 => ?_) (fun c37 => ?_)
              · have h := h.1 c37
                exact e_V C0 Y hO hS h (Nat.le_refl _) (Nat.le_refl _) dX8_turns_228
              · have h := h.2 c37
                exact bX8_turns_b193 C0 Y ihr _ _ _ _ _ _ _ h hO hS (lv_sub hl [3, 4, 5, 2, 1, 0] rfl)
          · have h := h.2 c29
            refine lv_aload_n C0.1 C0.2.1 dX8_turns_91 rfl (lv_at hl 3 rfl) ?_
            refine lv_aload_n C0.1 C0.2.1 dX8_turns_92 rfl (lv_at hl 3 rfl) ?_
            refine g8_35 C0 hO i25 tb_1363 dX8_turns_93 ?_
            refine lv_aload_n C0.1 C0.2.1 dX8_turns_96 rfl (lv_at hl 3 rfl) ?_
            refine g8_36 C0 hO i25 tb_1364 dX8_turns_97 ?_
            refine lv_lload C0.1 C0.2.1 dX8_turns_100 (lv_at hl 1 rfl) ?_
            refine lv_lload C0.1 C0.2.1 dX8_turns_102 (lv_at hl 1 rfl) ?_
            refine lv_lload C0.1 C0.2.1 dX8_turns_104 (lv_at hl 0 rfl) ?_
            refine lv_ladd C0.1 C0.2.1 dX8_turns_106 ?_
            refine c_V C0 hO hS (mX8_product h) i25 (by decide) rfl rfl tb_1544 tb_1546 tb_50 tb_81 tb_1547 hd_X8_product rfl ⟨⟨by simp only [rm_X8_turns, rm_X8_product]; omega, by simp only [rm_X8_turns, rm_X8_product]; omega⟩, Nat.le_refl _, Nat.le_refl _⟩ hl.1 rfl (Nat.le_of_ble_eq_true rfl) dX8_turns_107 (kV (fun S38 H locs h hO hS => ?_))
            refine lv_aload_n C0.1 C0.2.1 dX8_turns_110 rfl (lv_at hl 3 rfl) ?_
            obtain ⟨i39, h⟩ := h
            refine g8_35 C0 hO i39 tb_1363 dX8_turns_111 ?_
            refine lv_lstore C0.1 C0.2.1 dX8_turns_114 hl (by decide) rfl (fun ls hl => ?_)
            refine lv_aload_n C0.1 C0.2.1 dX8_turns_116 rfl (lv_at hl 4 rfl) ?_
            refine g8_36 C0 hO i39 tb_1364 dX8_turns_117 ?_
            refine lv_lstore C0.1 C0.2.1 dX8_turns_120 hl (by decide) rfl (fun ls hl => ?_)
            refine lv_aload_n C0.1 C0.2.1 dX8_turns_122 rfl (lv_at hl 5 rfl) ?_
            refine lv_aload_n C0.1 C0.2.1 dX8_turns_123 rfl (lv_at hl 5 rfl) ?_
            obtain ⟨a40, ea40, h⟩ := h
            refine g8_11 C0 hO i39 ea40 tb_1339 dX8_turns_124 ?_
            refine lv_iload_n C0.1 C0.2.1 dX8_turns_127 rfl (lv_at hl 4 rfl) ?_
            obtain ⟨i41, h⟩ := h
            obtain ⟨e42, h⟩ := h
            refine r_iald C0 hO i41 e42 dX8_turns_128 ?_
            refine lv_iload_n C0.1 C0.2.1 dX8_turns_129 rfl (lv_at hl 7 rfl) ?_
            refine c_V C0 hO hS (ihr h) i39 (by decide) rfl rfl tb_1583 tb_1585 tb_56 tb_81 tb_1586 hd_X8_turns rfl ⟨⟨by simp only [rm_X8_turns]; omega, by simp only [rm_X8_turns]; omega⟩, Nat.le_refl _, Nat.le_refl _⟩ hl.1 rfl (Nat.le_of_ble_eq_true rfl) dX8_turns_130 (kV (fun S43 H locs h hO hS => ?_))
            refine lv_aload_n C0.1 C0.2.1 dX8_turns_133 rfl (lv_at hl 5 rfl) ?_
            refine lv_aload_n C0.1 C0.2.1 dX8_turns_134 rfl (lv_at hl 5 rfl) ?_
            obtain ⟨i44, h⟩ := h
            refine g8_35 C0 hO i44 tb_1363 dX8_turns_135 ?_
            refine lv_aload_n C0.1 C0.2.1 dX8_turns_138 rfl (lv_at hl 5 rfl) ?_
            refine g8_36 C0 hO i44 tb_1364 dX8_turns_139 ?_
            refine lv_lload C0.1 C0.2.1 dX8_turns_142 (lv_at hl 2 rfl) ?_
            refine lv_lload C0.1 C0.2.1 dX8_turns_144 (lv_at hl 3 rfl) ?_
            refine lv_lload C0.1 C0.2.1 dX8_turns_146 (lv_at hl 2 rfl) ?_
            refine lv_ladd C0.1 C0.2.1 dX8_turns_148 ?_
            refine c_V C0 hO hS (mX8_product h) i44 (by decide) rfl rfl tb_1544 tb_1546 tb_50 tb_81 tb_1547 hd_X8_product rfl ⟨⟨by simp only [rm_X8_turns, rm_X8_product]; omega, by simp only [rm_X8_turns, rm_X8_product]; omega⟩, Nat.le_refl _, Nat.le_refl _⟩ hl.1 rfl (Nat.le_of_ble_eq_true rfl) dX8_turns_149 (kV (fun S45 H locs h hO hS => ?_))
            refine lv_aload_n C0.1 C0.2.1 dX8_turns_152 rfl (lv_at hl 5 rfl) ?_
            refine lv_lload C0.1 C0.2.1 dX8_turns_153 (lv_at hl 1 rfl) ?_
            refine lv_lload C0.1 C0.2.1 dX8_turns_155 (lv_at hl 0 rfl) ?_
            refine lv_aload_n C0.1 C0.2.1 dX8_turns_157 rfl (lv_at hl 5 rfl) ?_
            obtain ⟨i46, h⟩ := h
            refine g8_35 C0 hO i46 tb_1363 dX8_turns_158 ?_
            refine lv_aload_n C0.1 C0.2.1 dX8_turns_161 rfl (lv_at hl 5 rfl) ?_
            refine g8_36 C0 hO i46 tb_1364 dX8_turns_162 ?_
            refine c_V C0 hO hS (mX8_sum h) i46 (by decide) rfl rfl tb_1548 tb_1550 tb_51 tb_81 tb_1551 hd_X8_sum rfl ⟨⟨by simp only [rm_X8_turns, rm_X8_sum]; omega, by simp only [rm_X8_turns, rm_X8_sum]; omega⟩, Nat.le_refl _, Nat.le_refl _⟩ hl.1 rfl (Nat.le_of_ble_eq_true rfl) dX8_turns_165 (kV (fun S47 H locs h hO hS => ?_))
            refine lv_goto (tgt := 228) C0.1 C0.2.1 dX8_turns_168 (by decide) ?_
            exact e_V C0 Y hO hS h (Nat.le_refl _) (Nat.le_refl _) dX8_turns_228
        · have h := h.2 c14
          exact bX8_turns_b35 C0 Y ihr _ _ _ _ h hO hS (lv_sub hl [1, 2, 3] rfl)
def wX8_turns : Nat → Hp → Nat → Int32 → Int32 → (Hp → Prop) → Prop
  | 0 => fun _ _ _ _ _ => False
  | d + 1 => fun S x0 x1 x2 Φ => wX8_turns_b0 (wX8_turns d) x0 x1 x2 Φ S
set_option maxRecDepth 100000 in
theorem mX8_turns {l : Launch} {G : Gw} : ∀ (d : Nat) {S : Hp} {x0 : Nat} {x1 : Int32} {x2 : Int32} {Φ : Hp → Prop}, wX8_turns d S x0 x1 x2 Φ → gM l yX8_turns cX8_turns 12 none (rm_X8_turns d) [.ref x0, .int x1, .int x2] G S (PV Φ) := by
  intro d
  induction d with
  | zero => intro S x0 x1 x2 Φ h; exact (h : False).elim
  | succ d9 ih =>
    intro S x0 x1 x2 Φ h
    unfold gM
    refine Met.ofW (cc := cX8_turns) (maxL := 12) (ret := none) (by decide) rfl ?_
    intro p e s m args below meth c s₁ B hml hv
    obtain ⟨rfl, hw⟩ := hv
    obtain ⟨C0, Y, hO⟩ := mx_of B hml hw
    have hS : va_S (Ab G.b) s.heap s.heap [] := va_S.rf
    have hl := lv_entry ([.ref x0, .int x1, .int x2]) (n := 12) (Nat.le_of_ble_eq_true rfl)
    rw [lg_entry_eq]
    generalize (lg_sl ([.ref x0, .int x1, .int x2]) ++ List.replicate (12 - (lg_sl ([.ref x0, .int x1, .int x2])).length) Slot.unset).toArray = ls at hl ⊢
    have hl : lv_has ls 12 [(0, .ref x0), (1, .int x1), (2, .int x2)] := hl
    exact bX8_turns_b0 C0 Y (fun h => ih h) S _ _ _ h hO hS hl

def rm_X8_ratio : Room := { frames := 42, cells := 0, slots := 0, locals := 987 }
def wX8_ratio_b87 (x0 : Nat) (x1 : Int32) (x2 : Int32) (x3 : Int32) (Φ : Hp → Int64 → Prop) (S : Hp) : Prop := ((x3 = 0 → isA S x0 8 ∧ Φ S (S.FJ 548 x0)) ∧ (¬ (x3 = 0) → isA S x0 8 ∧ Φ S (S.FJ 547 x0)))
set_option maxHeartbeats 4000000 in
set_option maxRecDepth 100000 in
theorem bX8_ratio_b87 {p : Program} {l : Launch} {e : Env} {s : State} {m : MethodId} {args : Array Value} {below : List Frame} {meth : Method} {c : Code} {G : Gw} {x0 : Nat} {x1 : Int32} {x2 : Int32} {x3 : Int32} {Φ : Hp → Int64 → Prop} (C0 : Mx p s m c cX8_ratio 4 args yX8_ratio.cls G) (Y : My meth (some .long))  : ∀ (S : Hp) (H : Heap) (locs : List Loc) (ls : Array Slot), wX8_ratio_b87 x0 x1 x2 x3 Φ S → Ok G S H → va_S (Ab G.b) s.heap H locs → lv_has ls 4 [(0, .ref x0), (1, .int x1), (2, .int x2), (3, .int x3)] → W p l e rm_X8_ratio s m args below meth c H locs 0 0 (MQ below (gQ G (PJ Φ)) args s rm_X8_ratio.cells rm_X8_ratio.slots (Ab G.b)) (F0 m 87 ls []) := by
  intro S H locs ls h hO hS hl
  unfold wX8_ratio_b87 at h
  refine lv_iload_n C0.1 C0.2.1 dX8_ratio_87 rfl (lv_at hl 3 rfl) ?_
  refine lv_if_eq (tgt := 98) C0.1 C0.2.1 dX8_ratio_88 (by decide) (fun c1 => ?_) (fun c1 => ?_)
  · have h := h.1 c1
    refine lv_aload_n C0.1 C0.2.1 dX8_ratio_98 rfl (lv_at hl 0 rfl) ?_
    obtain ⟨i2, h⟩ := h
    refine g8_36 C0 hO i2 tb_1364 dX8_ratio_99 ?_
    exact e_J C0 Y hO hS h (Nat.le_refl _) (Nat.le_refl _) dX8_ratio_102
  · have h := h.2 c1
    refine lv_aload_n C0.1 C0.2.1 dX8_ratio_91 rfl (lv_at hl 0 rfl) ?_
    obtain ⟨i3, h⟩ := h
    refine g8_35 C0 hO i3 tb_1363 dX8_ratio_92 ?_
    refine lv_goto (tgt := 102) C0.1 C0.2.1 dX8_ratio_95 (by decide) ?_
    exact e_J C0 Y hO hS h (Nat.le_refl _) (Nat.le_refl _) dX8_ratio_102
def wX8_ratio_b54 (x0 : Nat) (x1 : Int32) (x2 : Int32) (x3 : Int32) (Φ : Hp → Int64 → Prop) (S : Hp) (z0 : Nat) (z1 : Int32) : Prop := isA S z0 8 ∧ wX8_isThrown S z0 z1 2 (fun S1 r2 => ((r2 = 0 → isA S1 x0 8 ∧ wX8_isBehind 20 S1 x0 x1 x2 (fun S5 r6 => ((r6 = 0 → isA S5 x0 8 ∧ wX8_result S5 x0 0 1 (fun S9 => wX8_ratio_b87 x0 x1 x2 x3 Φ S9)) ∧ (¬ (r6 = 0) → isA S5 x0 8 ∧ wX8_turns 20 S5 x0 x1 x2 (fun S11 => wX8_ratio_b87 x0 x1 x2 x3 Φ S11))))) ∧ (¬ (r2 = 0) → Φ S1 0)))
set_option maxHeartbeats 4000000 in
set_option maxRecDepth 100000 in
theorem bX8_ratio_b54 {p : Program} {l : Launch} {e : Env} {s : State} {m : MethodId} {args : Array Value} {below : List Frame} {meth : Method} {c : Code} {G : Gw} {x0 : Nat} {x1 : Int32} {x2 : Int32} {x3 : Int32} {Φ : Hp → Int64 → Prop} (C0 : Mx p s m c cX8_ratio 4 args yX8_ratio.cls G) (Y : My meth (some .long))  : ∀ (S : Hp) (z0 : Nat) (z1 : Int32) (H : Heap) (locs : List Loc) (ls : Array Slot), wX8_ratio_b54 x0 x1 x2 x3 Φ S z0 z1 → Ok G S H → va_S (Ab G.b) s.heap H locs → lv_has ls 4 [(0, .ref x0), (1, .int x1), (2, .int x2), (3, .int x3)] → W p l e rm_X8_ratio s m args below meth c H locs 0 0 (MQ below (gQ G (PJ Φ)) args s rm_X8_ratio.cells rm_X8_ratio.slots (Ab G.b)) (F0 m 54 ls [.int z1, .ref z0]) := by
  intro S z0 z1 H locs ls h hO hS hl
  unfold wX8_ratio_b54 at h
  refine lv_iconst (v := 2) C0.1 C0.2.1 dX8_ratio_54 (by decide) ?_
  obtain ⟨i3, h⟩ := h
  refine c_V C0 hO hS (mX8_isThrown h) i3 (by decide) rfl rfl tb_1451 tb_1453 tb_37 tb_81 tb_1454 hd_X8_isThrown rfl ⟨⟨by decide, by decide⟩, by decide, by decide⟩ hl.1 rfl (Nat.le_of_ble_eq_true rfl) dX8_ratio_55 (kI (fun r2 S1 H locs h hO hS => ?_))
  refine lv_if_eq (tgt := 63) C0.1 C0.2.1 dX8_ratio_58 (by decide) (fun c4 => ?_) (fun c4 => ?_)
  · have h := h.1 c4
    refine lv_aload_n C0.1 C0.2.1 dX8_ratio_63 rfl (lv_at hl 0 rfl) ?_
    refine lv_iload_n C0.1 C0.2.1 dX8_ratio_64 rfl (lv_at hl 1 rfl) ?_
    refine lv_iload_n C0.1 C0.2.1 dX8_ratio_65 rfl (lv_at hl 2 rfl) ?_
    obtain ⟨i7, h⟩ := h
    refine c_V C0 hO hS (mX8_isBehind 20 h) i7 (by decide) rfl rfl tb_1522 tb_1524 tb_46 tb_81 tb_1525 hd_X8_isBehind rfl ⟨⟨by decide, by decide⟩, by decide, by decide⟩ hl.1 rfl (Nat.le_of_ble_eq_true rfl) dX8_ratio_66 (kI (fun r6 S5 H locs h hO hS => ?_))
    refine lv_if_eq (tgt := 81) C0.1 C0.2.1 dX8_ratio_69 (by decide) (fun c8 => ?_) (fun c8 => ?_)
    · have h := h.1 c8
      refine lv_aload_n C0.1 C0.2.1 dX8_ratio_81 rfl (lv_at hl 0 rfl) ?_
      refine lv_lconst (v := 0) C0.1 C0.2.1 dX8_ratio_82 (by decide) ?_
      refine lv_lconst (v := 1) C0.1 C0.2.1 dX8_ratio_83 (by decide) ?_
      obtain ⟨i10, h⟩ := h
      refine c_V C0 hO hS (mX8_result h) i10 (by decide) rfl rfl tb_1532 tb_1534 tb_48 tb_81 tb_1535 hd_X8_result rfl ⟨⟨by decide, by decide⟩, by decide, by decide⟩ hl.1 rfl (Nat.le_of_ble_eq_true rfl) dX8_ratio_84 (kV (fun S9 H locs h hO hS => ?_))
      exact bX8_ratio_b87 C0 Y _ _ _ _ h hO hS (lv_sub hl [0, 1, 2, 3] rfl)
    · have h := h.2 c8
      refine lv_aload_n C0.1 C0.2.1 dX8_ratio_72 rfl (lv_at hl 0 rfl) ?_
      refine lv_iload_n C0.1 C0.2.1 dX8_ratio_73 rfl (lv_at hl 1 rfl) ?_
      refine lv_iload_n C0.1 C0.2.1 dX8_ratio_74 rfl (lv_at hl 2 rfl) ?_
      obtain ⟨i12, h⟩ := h
      refine c_V C0 hO hS (mX8_turns 20 h) i12 (by decide) rfl rfl tb_1583 tb_1585 tb_56 tb_81 tb_1586 hd_X8_turns rfl ⟨⟨by decide, by decide⟩, by decide, by decide⟩ hl.1 rfl (Nat.le_of_ble_eq_true rfl) dX8_ratio_75 (kV (fun S11 H locs h hO hS => ?_))
      refine lv_goto (tgt := 87) C0.1 C0.2.1 dX8_ratio_78 (by decide) ?_
      exact bX8_ratio_b87 C0 Y _ _ _ _ h hO hS (lv_sub hl [0, 1, 2, 3] rfl)
  · have h := h.2 c4
    refine lv_lconst (v := 0) C0.1 C0.2.1 dX8_ratio_61 (by decide) ?_
    exact e_J C0 Y hO hS h (Nat.le_refl _) (Nat.le_refl _) dX8_ratio_62
def wX8_ratio_b49 (x0 : Nat) (x1 : Int32) (x2 : Int32) (x3 : Int32) (Φ : Hp → Int64 → Prop) (S : Hp) (z0 : Nat) : Prop := wX8_ratio_b54 x0 x1 x2 x3 Φ S z0 1
set_option maxHeartbeats 4000000 in
set_option maxRecDepth 100000 in
theorem bX8_ratio_b49 {p : Program} {l : Launch} {e : Env} {s : State} {m : MethodId} {args : Array Value} {below : List Frame} {meth : Method} {c : Code} {G : Gw} {x0 : Nat} {x1 : Int32} {x2 : Int32} {x3 : Int32} {Φ : Hp → Int64 → Prop} (C0 : Mx p s m c cX8_ratio 4 args yX8_ratio.cls G) (Y : My meth (some .long))  : ∀ (S : Hp) (z0 : Nat) (H : Heap) (locs : List Loc) (ls : Array Slot), wX8_ratio_b49 x0 x1 x2 x3 Φ S z0 → Ok G S H → va_S (Ab G.b) s.heap H locs → lv_has ls 4 [(0, .ref x0), (1, .int x1), (2, .int x2), (3, .int x3)] → W p l e rm_X8_ratio s m args below meth c H locs 0 0 (MQ below (gQ G (PJ Φ)) args s rm_X8_ratio.cells rm_X8_ratio.slots (Ab G.b)) (F0 m 49 ls [.ref z0]) := by
  intro S z0 H locs ls h hO hS hl
  unfold wX8_ratio_b49 at h
  refine lv_iconst (v := 1) C0.1 C0.2.1 dX8_ratio_49 (by decide) ?_
  refine lv_goto (tgt := 54) C0.1 C0.2.1 dX8_ratio_50 (by decide) ?_
  exact bX8_ratio_b54 C0 Y _ _ _ _ _ _ h hO hS (lv_sub hl [0, 1, 2, 3] rfl)
def wX8_ratio_b22 (x0 : Nat) (x1 : Int32) (x2 : Int32) (x3 : Int32) (Φ : Hp → Int64 → Prop) (S : Hp) (z0 : Nat) (z1 : Int32) : Prop := isA S z0 8 ∧ wX8_isThrown S z0 z1 1 (fun S1 r2 => ((¬ r2 = 0 → Φ S1 0) ∧ (r2 = 0 → isA S1 x0 8 ∧ ∃ a6, S1.FR 519 x0 = some a6 ∧ isA S1 a6 21 ∧ vp_in x2 (S1.N a6) ∧ ((¬ (S1.AI a6 x2.toNatClampNeg) = (-1) → wX8_ratio_b49 x0 x1 x2 x3 Φ S1 x0) ∧ ((S1.AI a6 x2.toNatClampNeg) = (-1) → wX8_isUneven 20 S1 x0 x1 x2 (fun S10 r11 => ((r11 = 0 → wX8_ratio_b54 x0 x1 x2 x3 Φ S10 x0 0) ∧ (¬ (r11 = 0) → wX8_ratio_b49 x0 x1 x2 x3 Φ S10 x0))))))))
set_option maxHeartbeats 4000000 in
set_option maxRecDepth 100000 in
theorem bX8_ratio_b22 {p : Program} {l : Launch} {e : Env} {s : State} {m : MethodId} {args : Array Value} {below : List Frame} {meth : Method} {c : Code} {G : Gw} {x0 : Nat} {x1 : Int32} {x2 : Int32} {x3 : Int32} {Φ : Hp → Int64 → Prop} (C0 : Mx p s m c cX8_ratio 4 args yX8_ratio.cls G) (Y : My meth (some .long))  : ∀ (S : Hp) (z0 : Nat) (z1 : Int32) (H : Heap) (locs : List Loc) (ls : Array Slot), wX8_ratio_b22 x0 x1 x2 x3 Φ S z0 z1 → Ok G S H → va_S (Ab G.b) s.heap H locs → lv_has ls 4 [(0, .ref x0), (1, .int x1), (2, .int x2), (3, .int x3)] → W p l e rm_X8_ratio s m args below meth c H locs 0 0 (MQ below (gQ G (PJ Φ)) args s rm_X8_ratio.cells rm_X8_ratio.slots (Ab G.b)) (F0 m 22 ls [.int z1, .ref z0]) := by
  intro S z0 z1 H locs ls h hO hS hl
  unfold wX8_ratio_b22 at h
  refine lv_iconst (v := 1) C0.1 C0.2.1 dX8_ratio_22 (by decide) ?_
  obtain ⟨i3, h⟩ := h
  refine c_V C0 hO hS (mX8_isThrown h) i3 (by decide) rfl rfl tb_1451 tb_1453 tb_37 tb_81 tb_1454 hd_X8_isThrown rfl ⟨⟨by decide, by decide⟩, by decide, by decide⟩ hl.1 rfl (Nat.le_of_ble_eq_true rfl) dX8_ratio_23 (kI (fun r2 S1 H locs h hO hS => ?_))
  refine lv_if_ne (tgt := 61) C0.1 C0.2.1 dX8_ratio_26 (by decide) (fun c4 => ?_) (fun c4 => ?_)
  · have h := h.1 c4
    refine lv_lconst (v := 0) C0.1 C0.2.1 dX8_ratio_61 (by decide) ?_
    exact e_J C0 Y hO hS h (Nat.le_refl _) (Nat.le_refl _) dX8_ratio_62
  · have h := h.2 c4
    refine lv_aload_n C0.1 C0.2.1 dX8_ratio_29 rfl (lv_at hl 0 rfl) ?_
    refine lv_aload_n C0.1 C0.2.1 dX8_ratio_30 rfl (lv_at hl 0 rfl) ?_
    obtain ⟨i5, h⟩ := h
    obtain ⟨a6, ea6, h⟩ := h
    refine g8_7 C0 hO i5 ea6 tb_1335 dX8_ratio_31 ?_
    refine lv_iload_n C0.1 C0.2.1 dX8_ratio_34 rfl (lv_at hl 2 rfl) ?_
    obtain ⟨i7, h⟩ := h
    obtain ⟨e8, h⟩ := h
    refine r_iald C0 hO i7 e8 dX8_ratio_35 ?_
    refine lv_iconst (v := (-1)) C0.1 C0.2.1 dX8_ratio_36 (by decide) ?_
    refine lv_icmp_ne (tgt := 49) C0.1 C0.2.1 dX8_ratio_37 (by decide) (fun c9 => ?_) (fun c9 => ?_)
    · have h := h.1 c9
      exact bX8_ratio_b49 C0 Y _ _ _ _ _ h hO hS (lv_sub hl [0, 1, 2, 3] rfl)
    · have h := h.2 c9
      refine lv_aload_n C0.1 C0.2.1 dX8_ratio_40 rfl (lv_at hl 0 rfl) ?_
      refine lv_iload_n C0.1 C0.2.1 dX8_ratio_41 rfl (lv_at hl 1 rfl) ?_
      refine lv_iload_n C0.1 C0.2.1 dX8_ratio_42 rfl (lv_at hl 2 rfl) ?_
      refine c_V C0 hO hS (mX8_isUneven 20 h) i5 (by decide) rfl rfl tb_1579 tb_1581 tb_55 tb_81 tb_1582 hd_X8_isUneven rfl ⟨⟨by decide, by decide⟩, by decide, by decide⟩ hl.1 rfl (Nat.le_of_ble_eq_true rfl) dX8_ratio_43 (kI (fun r11 S10 H locs h hO hS => ?_))
      refine lv_if_eq (tgt := 53) C0.1 C0.2.1 dX8_ratio_46 (by decide) (fun c12 => ?_) (fun c12 => ?_)
      · have h := h.1 c12
        refine lv_iconst (v := 0) C0.1 C0.2.1 dX8_ratio_53 (by decide) ?_
        exact bX8_ratio_b54 C0 Y _ _ _ _ _ _ h hO hS (lv_sub hl [0, 1, 2, 3] rfl)
      · have h := h.2 c12
        exact bX8_ratio_b49 C0 Y _ _ _ _ _ h hO hS (lv_sub hl [0, 1, 2, 3] rfl)
def wX8_ratio_b17 (x0 : Nat) (x1 : Int32) (x2 : Int32) (x3 : Int32) (Φ : Hp → Int64 → Prop) (S : Hp) (z0 : Nat) : Prop := wX8_ratio_b22 x0 x1 x2 x3 Φ S z0 1
set_option maxHeartbeats 4000000 in
set_option maxRecDepth 100000 in
theorem bX8_ratio_b17 {p : Program} {l : Launch} {e : Env} {s : State} {m : MethodId} {args : Array Value} {below : List Frame} {meth : Method} {c : Code} {G : Gw} {x0 : Nat} {x1 : Int32} {x2 : Int32} {x3 : Int32} {Φ : Hp → Int64 → Prop} (C0 : Mx p s m c cX8_ratio 4 args yX8_ratio.cls G) (Y : My meth (some .long))  : ∀ (S : Hp) (z0 : Nat) (H : Heap) (locs : List Loc) (ls : Array Slot), wX8_ratio_b17 x0 x1 x2 x3 Φ S z0 → Ok G S H → va_S (Ab G.b) s.heap H locs → lv_has ls 4 [(0, .ref x0), (1, .int x1), (2, .int x2), (3, .int x3)] → W p l e rm_X8_ratio s m args below meth c H locs 0 0 (MQ below (gQ G (PJ Φ)) args s rm_X8_ratio.cells rm_X8_ratio.slots (Ab G.b)) (F0 m 17 ls [.ref z0]) := by
  intro S z0 H locs ls h hO hS hl
  unfold wX8_ratio_b17 at h
  refine lv_iconst (v := 1) C0.1 C0.2.1 dX8_ratio_17 (by decide) ?_
  refine lv_goto (tgt := 22) C0.1 C0.2.1 dX8_ratio_18 (by decide) ?_
  exact bX8_ratio_b22 C0 Y _ _ _ _ _ _ h hO hS (lv_sub hl [0, 1, 2, 3] rfl)
def wX8_ratio_b0 (x0 : Nat) (x1 : Int32) (x2 : Int32) (x3 : Int32) (Φ : Hp → Int64 → Prop) (S : Hp) : Prop := isA S x0 8 ∧ wX8_isNoShaft S x0 x1 (fun S1 r2 => ((¬ r2 = 0 → wX8_ratio_b17 x0 x1 x2 x3 Φ S1 x0) ∧ (r2 = 0 → isA S1 x0 8 ∧ wX8_isNoShaft S1 x0 x2 (fun S5 r6 => ((r6 = 0 → wX8_ratio_b22 x0 x1 x2 x3 Φ S5 x0 0) ∧ (¬ (r6 = 0) → wX8_ratio_b17 x0 x1 x2 x3 Φ S5 x0))))))
set_option maxHeartbeats 4000000 in
set_option maxRecDepth 100000 in
theorem bX8_ratio_b0 {p : Program} {l : Launch} {e : Env} {s : State} {m : MethodId} {args : Array Value} {below : List Frame} {meth : Method} {c : Code} {G : Gw} {x0 : Nat} {x1 : Int32} {x2 : Int32} {x3 : Int32} {Φ : Hp → Int64 → Prop} (C0 : Mx p s m c cX8_ratio 4 args yX8_ratio.cls G) (Y : My meth (some .long))  : ∀ (S : Hp) (H : Heap) (locs : List Loc) (ls : Array Slot), wX8_ratio_b0 x0 x1 x2 x3 Φ S → Ok G S H → va_S (Ab G.b) s.heap H locs → lv_has ls 4 [(0, .ref x0), (1, .int x1), (2, .int x2), (3, .int x3)] → W p l e rm_X8_ratio s m args below meth c H locs 0 0 (MQ below (gQ G (PJ Φ)) args s rm_X8_ratio.cells rm_X8_ratio.slots (Ab G.b)) (F0 m 0 ls []) := by
  intro S H locs ls h hO hS hl
  unfold wX8_ratio_b0 at h
  refine lv_aload_n C0.1 C0.2.1 dX8_ratio_0 rfl (lv_at hl 0 rfl) ?_
  refine lv_aload_n C0.1 C0.2.1 dX8_ratio_1 rfl (lv_at hl 0 rfl) ?_
  refine lv_iload_n C0.1 C0.2.1 dX8_ratio_2 rfl (lv_at hl 1 rfl) ?_
  obtain ⟨i3, h⟩ := h
  refine c_V C0 hO hS (mX8_isNoShaft h) i3 (by decide) rfl rfl tb_1459 tb_1461 tb_38 tb_81 tb_1462 hd_X8_isNoShaft rfl ⟨⟨by decide, by decide⟩, by decide, by decide⟩ hl.1 rfl (Nat.le_of_ble_eq_true rfl) dX8_ratio_3 (kI (fun r2 S1 H locs h hO hS => ?_))
  refine lv_if_ne (tgt := 17) C0.1 C0.2.1 dX8_ratio_6 (by decide) (fun c4 => ?_) (fun c4 => ?_)
  · have h := h.1 c4
    exact bX8_ratio_b17 C0 Y _ _ _ _ _ h hO hS (lv_sub hl [0, 1, 2, 3] rfl)
  · have h := h.2 c4
    refine lv_aload_n C0.1 C0.2.1 dX8_ratio_9 rfl (lv_at hl 0 rfl) ?_
    refine lv_iload_n C0.1 C0.2.1 dX8_ratio_10 rfl (lv_at hl 2 rfl) ?_
    obtain ⟨i7, h⟩ := h
    refine c_V C0 hO hS (mX8_isNoShaft h) i7 (by decide) rfl rfl tb_1459 tb_1461 tb_38 tb_81 tb_1462 hd_X8_isNoShaft rfl ⟨⟨by decide, by decide⟩, by decide, by decide⟩ hl.1 rfl (Nat.le_of_ble_eq_true rfl) dX8_ratio_11 (kI (fun r6 S5 H locs h hO hS => ?_))
    refine lv_if_eq (tgt := 21) C0.1 C0.2.1 dX8_ratio_14 (by decide) (fun c8 => ?_) (fun c8 => ?_)
    · have h := h.1 c8
      refine lv_iconst (v := 0) C0.1 C0.2.1 dX8_ratio_21 (by decide) ?_
      exact bX8_ratio_b22 C0 Y _ _ _ _ _ _ h hO hS (lv_sub hl [0, 1, 2, 3] rfl)
    · have h := h.2 c8
      exact bX8_ratio_b17 C0 Y _ _ _ _ _ h hO hS (lv_sub hl [0, 1, 2, 3] rfl)
def wX8_ratio (S : Hp) (x0 : Nat) (x1 : Int32) (x2 : Int32) (x3 : Int32) (Φ : Hp → Int64 → Prop) : Prop := wX8_ratio_b0 x0 x1 x2 x3 Φ S
set_option maxRecDepth 100000 in
theorem mX8_ratio {l : Launch} {G : Gw} {S : Hp} {x0 : Nat} {x1 : Int32} {x2 : Int32} {x3 : Int32} {Φ : Hp → Int64 → Prop} (h : wX8_ratio S x0 x1 x2 x3 Φ) : gM l yX8_ratio cX8_ratio 4 (some .long) rm_X8_ratio [.ref x0, .int x1, .int x2, .int x3] G S (PJ Φ) := by
  unfold gM
  refine Met.ofW (cc := cX8_ratio) (maxL := 4) (ret := (some .long)) (by decide) rfl ?_
  intro p e s m args below meth c s₁ B hml hv
  obtain ⟨rfl, hw⟩ := hv
  obtain ⟨C0, Y, hO⟩ := mx_of B hml hw
  have hS : va_S (Ab G.b) s.heap s.heap [] := va_S.rf
  have hl := lv_entry ([.ref x0, .int x1, .int x2, .int x3]) (n := 4) (Nat.le_of_ble_eq_true rfl)
  rw [lg_entry_eq]
  generalize (lg_sl ([.ref x0, .int x1, .int x2, .int x3]) ++ List.replicate (4 - (lg_sl ([.ref x0, .int x1, .int x2, .int x3])).length) Slot.unset).toArray = ls at hl ⊢
  have hl : lv_has ls 4 [(0, .ref x0), (1, .int x1), (2, .int x2), (3, .int x3)] := hl
  exact bX8_ratio_b0 C0 Y S _ _ _ h hO hS hl

def rm_X8_ratioOver : Room := { frames := 43, cells := 0, slots := 0, locals := 1010 }
def wX8_ratioOver_b0 (x0 : Nat) (x1 : Int32) (x2 : Int32) (Φ : Hp → Int64 → Prop) (S : Hp) : Prop := isA S x0 8 ∧ wX8_ratio S x0 x1 x2 1 (fun S1 r2 => Φ S1 r2)
set_option maxHeartbeats 4000000 in
set_option maxRecDepth 100000 in
theorem bX8_ratioOver_b0 {p : Program} {l : Launch} {e : Env} {s : State} {m : MethodId} {args : Array Value} {below : List Frame} {meth : Method} {c : Code} {G : Gw} {x0 : Nat} {x1 : Int32} {x2 : Int32} {Φ : Hp → Int64 → Prop} (C0 : Mx p s m c cX8_ratioOver 3 args yX8_ratioOver.cls G) (Y : My meth (some .long))  : ∀ (S : Hp) (H : Heap) (locs : List Loc) (ls : Array Slot), wX8_ratioOver_b0 x0 x1 x2 Φ S → Ok G S H → va_S (Ab G.b) s.heap H locs → lv_has ls 3 [(0, .ref x0), (1, .int x1), (2, .int x2)] → W p l e rm_X8_ratioOver s m args below meth c H locs 0 0 (MQ below (gQ G (PJ Φ)) args s rm_X8_ratioOver.cells rm_X8_ratioOver.slots (Ab G.b)) (F0 m 0 ls []) := by
  intro S H locs ls h hO hS hl
  unfold wX8_ratioOver_b0 at h
  refine lv_aload_n C0.1 C0.2.1 dX8_ratioOver_0 rfl (lv_at hl 0 rfl) ?_
  refine lv_iload_n C0.1 C0.2.1 dX8_ratioOver_1 rfl (lv_at hl 1 rfl) ?_
  refine lv_iload_n C0.1 C0.2.1 dX8_ratioOver_2 rfl (lv_at hl 2 rfl) ?_
  refine lv_iconst (v := 1) C0.1 C0.2.1 dX8_ratioOver_3 (by decide) ?_
  obtain ⟨i3, h⟩ := h
  refine c_V C0 hO hS (mX8_ratio h) i3 (by decide) rfl rfl tb_1575 tb_1577 tb_54 tb_81 tb_1578 hd_X8_ratio rfl ⟨⟨by decide, by decide⟩, by decide, by decide⟩ hl.1 rfl (Nat.le_of_ble_eq_true rfl) dX8_ratioOver_4 (kJ (fun r2 S1 H locs h hO hS => ?_))
  exact e_J C0 Y hO hS h (Nat.le_refl _) (Nat.le_refl _) dX8_ratioOver_7
def wX8_ratioOver (S : Hp) (x0 : Nat) (x1 : Int32) (x2 : Int32) (Φ : Hp → Int64 → Prop) : Prop := wX8_ratioOver_b0 x0 x1 x2 Φ S
set_option maxRecDepth 100000 in
theorem mX8_ratioOver {l : Launch} {G : Gw} {S : Hp} {x0 : Nat} {x1 : Int32} {x2 : Int32} {Φ : Hp → Int64 → Prop} (h : wX8_ratioOver S x0 x1 x2 Φ) : gM l yX8_ratioOver cX8_ratioOver 3 (some .long) rm_X8_ratioOver [.ref x0, .int x1, .int x2] G S (PJ Φ) := by
  unfold gM
  refine Met.ofW (cc := cX8_ratioOver) (maxL := 3) (ret := (some .long)) (by decide) rfl ?_
  intro p e s m args below meth c s₁ B hml hv
  obtain ⟨rfl, hw⟩ := hv
  obtain ⟨C0, Y, hO⟩ := mx_of B hml hw
  have hS : va_S (Ab G.b) s.heap s.heap [] := va_S.rf
  have hl := lv_entry ([.ref x0, .int x1, .int x2]) (n := 3) (Nat.le_of_ble_eq_true rfl)
  rw [lg_entry_eq]
  generalize (lg_sl ([.ref x0, .int x1, .int x2]) ++ List.replicate (3 - (lg_sl ([.ref x0, .int x1, .int x2])).length) Slot.unset).toArray = ls at hl ⊢
  have hl : lv_has ls 3 [(0, .ref x0), (1, .int x1), (2, .int x2)] := hl
  exact bX8_ratioOver_b0 C0 Y S _ _ _ h hO hS hl

def rm_X8_ratioUnder : Room := { frames := 43, cells := 0, slots := 0, locals := 1010 }
def wX8_ratioUnder_b0 (x0 : Nat) (x1 : Int32) (x2 : Int32) (Φ : Hp → Int64 → Prop) (S : Hp) : Prop := isA S x0 8 ∧ wX8_ratio S x0 x1 x2 0 (fun S1 r2 => Φ S1 r2)
set_option maxHeartbeats 4000000 in
set_option maxRecDepth 100000 in
theorem bX8_ratioUnder_b0 {p : Program} {l : Launch} {e : Env} {s : State} {m : MethodId} {args : Array Value} {below : List Frame} {meth : Method} {c : Code} {G : Gw} {x0 : Nat} {x1 : Int32} {x2 : Int32} {Φ : Hp → Int64 → Prop} (C0 : Mx p s m c cX8_ratioUnder 3 args yX8_ratioUnder.cls G) (Y : My meth (some .long))  : ∀ (S : Hp) (H : Heap) (locs : List Loc) (ls : Array Slot), wX8_ratioUnder_b0 x0 x1 x2 Φ S → Ok G S H → va_S (Ab G.b) s.heap H locs → lv_has ls 3 [(0, .ref x0), (1, .int x1), (2, .int x2)] → W p l e rm_X8_ratioUnder s m args below meth c H locs 0 0 (MQ below (gQ G (PJ Φ)) args s rm_X8_ratioUnder.cells rm_X8_ratioUnder.slots (Ab G.b)) (F0 m 0 ls []) := by
  intro S H locs ls h hO hS hl
  unfold wX8_ratioUnder_b0 at h
  refine lv_aload_n C0.1 C0.2.1 dX8_ratioUnder_0 rfl (lv_at hl 0 rfl) ?_
  refine lv_iload_n C0.1 C0.2.1 dX8_ratioUnder_1 rfl (lv_at hl 1 rfl) ?_
  refine lv_iload_n C0.1 C0.2.1 dX8_ratioUnder_2 rfl (lv_at hl 2 rfl) ?_
  refine lv_iconst (v := 0) C0.1 C0.2.1 dX8_ratioUnder_3 (by decide) ?_
  obtain ⟨i3, h⟩ := h
  refine c_V C0 hO hS (mX8_ratio h) i3 (by decide) rfl rfl tb_1575 tb_1577 tb_54 tb_81 tb_1578 hd_X8_ratio rfl ⟨⟨by decide, by decide⟩, by decide, by decide⟩ hl.1 rfl (Nat.le_of_ble_eq_true rfl) dX8_ratioUnder_4 (kJ (fun r2 S1 H locs h hO hS => ?_))
  exact e_J C0 Y hO hS h (Nat.le_refl _) (Nat.le_refl _) dX8_ratioUnder_7
def wX8_ratioUnder (S : Hp) (x0 : Nat) (x1 : Int32) (x2 : Int32) (Φ : Hp → Int64 → Prop) : Prop := wX8_ratioUnder_b0 x0 x1 x2 Φ S
set_option maxRecDepth 100000 in
theorem mX8_ratioUnder {l : Launch} {G : Gw} {S : Hp} {x0 : Nat} {x1 : Int32} {x2 : Int32} {Φ : Hp → Int64 → Prop} (h : wX8_ratioUnder S x0 x1 x2 Φ) : gM l yX8_ratioUnder cX8_ratioUnder 3 (some .long) rm_X8_ratioUnder [.ref x0, .int x1, .int x2] G S (PJ Φ) := by
  unfold gM
  refine Met.ofW (cc := cX8_ratioUnder) (maxL := 3) (ret := (some .long)) (by decide) rfl ?_
  intro p e s m args below meth c s₁ B hml hv
  obtain ⟨rfl, hw⟩ := hv
  obtain ⟨C0, Y, hO⟩ := mx_of B hml hw
  have hS : va_S (Ab G.b) s.heap s.heap [] := va_S.rf
  have hl := lv_entry ([.ref x0, .int x1, .int x2]) (n := 3) (Nat.le_of_ble_eq_true rfl)
  rw [lg_entry_eq]
  generalize (lg_sl ([.ref x0, .int x1, .int x2]) ++ List.replicate (3 - (lg_sl ([.ref x0, .int x1, .int x2])).length) Slot.unset).toArray = ls at hl ⊢
  have hl : lv_has ls 3 [(0, .ref x0), (1, .int x1), (2, .int x2)] := hl
  exact bX8_ratioUnder_b0 C0 Y S _ _ _ h hO hS hl

def rm_X8_driver : Room := { frames := 2, cells := 0, slots := 0, locals := 43 }
def wX8_driver_b36 (x0 : Nat) (x1 : Int32) (Φ : Hp → Int32 → Prop) (S : Hp) : Prop := Φ S 0
set_option maxHeartbeats 4000000 in
set_option maxRecDepth 100000 in
theorem bX8_driver_b36 {p : Program} {l : Launch} {e : Env} {s : State} {m : MethodId} {args : Array Value} {below : List Frame} {meth : Method} {c : Code} {G : Gw} {x0 : Nat} {x1 : Int32} {Φ : Hp → Int32 → Prop} (C0 : Mx p s m c cX8_driver 2 args yX8_driver.cls G) (Y : My meth (some .int))  : ∀ (S : Hp) (H : Heap) (locs : List Loc) (ls : Array Slot), wX8_driver_b36 x0 x1 Φ S → Ok G S H → va_S (Ab G.b) s.heap H locs → lv_has ls 2 [(0, .ref x0), (1, .int x1)] → W p l e rm_X8_driver s m args below meth c H locs 0 0 (MQ below (gQ G (PI Φ)) args s rm_X8_driver.cells rm_X8_driver.slots (Ab G.b)) (F0 m 36 ls []) := by
  intro S H locs ls h hO hS hl
  unfold wX8_driver_b36 at h
  refine lv_iconst (v := 0) C0.1 C0.2.1 dX8_driver_36 (by decide) ?_
  refine lv_goto (tgt := 46) C0.1 C0.2.1 dX8_driver_37 (by decide) ?_
  exact e_I C0 Y hO hS h (Nat.le_refl _) (Nat.le_refl _) dX8_driver_46
def wX8_driver_b29 (x0 : Nat) (x1 : Int32) (Φ : Hp → Int32 → Prop) (S : Hp) (z0 : Nat) (z1 : Int32) : Prop := isA S z0 8 ∧ wX8_isThrown S z0 z1 2 (fun S1 r2 => ((r2 = 0 → isA S1 x0 8 ∧ ∃ a6, S1.FR 519 x0 = some a6 ∧ isA S1 a6 21 ∧ vp_in x1 (S1.N a6) ∧ Φ S1 (S1.AI a6 x1.toNatClampNeg)) ∧ (¬ (r2 = 0) → wX8_driver_b36 x0 x1 Φ S1)))
set_option maxHeartbeats 4000000 in
set_option maxRecDepth 100000 in
theorem bX8_driver_b29 {p : Program} {l : Launch} {e : Env} {s : State} {m : MethodId} {args : Array Value} {below : List Frame} {meth : Method} {c : Code} {G : Gw} {x0 : Nat} {x1 : Int32} {Φ : Hp → Int32 → Prop} (C0 : Mx p s m c cX8_driver 2 args yX8_driver.cls G) (Y : My meth (some .int))  : ∀ (S : Hp) (z0 : Nat) (z1 : Int32) (H : Heap) (locs : List Loc) (ls : Array Slot), wX8_driver_b29 x0 x1 Φ S z0 z1 → Ok G S H → va_S (Ab G.b) s.heap H locs → lv_has ls 2 [(0, .ref x0), (1, .int x1)] → W p l e rm_X8_driver s m args below meth c H locs 0 0 (MQ below (gQ G (PI Φ)) args s rm_X8_driver.cells rm_X8_driver.slots (Ab G.b)) (F0 m 29 ls [.int z1, .ref z0]) := by
  intro S z0 z1 H locs ls h hO hS hl
  unfold wX8_driver_b29 at h
  refine lv_iconst (v := 2) C0.1 C0.2.1 dX8_driver_29 (by decide) ?_
  obtain ⟨i3, h⟩ := h
  refine c_V C0 hO hS (mX8_isThrown h) i3 (by decide) rfl rfl tb_1451 tb_1453 tb_37 tb_81 tb_1454 hd_X8_isThrown rfl ⟨⟨by decide, by decide⟩, by decide, by decide⟩ hl.1 rfl (Nat.le_of_ble_eq_true rfl) dX8_driver_30 (kI (fun r2 S1 H locs h hO hS => ?_))
  refine lv_if_eq (tgt := 40) C0.1 C0.2.1 dX8_driver_33 (by decide) (fun c4 => ?_) (fun c4 => ?_)
  · have h := h.1 c4
    refine lv_aload_n C0.1 C0.2.1 dX8_driver_40 rfl (lv_at hl 0 rfl) ?_
    obtain ⟨i5, h⟩ := h
    obtain ⟨a6, ea6, h⟩ := h
    refine g8_7 C0 hO i5 ea6 tb_1335 dX8_driver_41 ?_
    refine lv_iload_n C0.1 C0.2.1 dX8_driver_44 rfl (lv_at hl 1 rfl) ?_
    obtain ⟨i7, h⟩ := h
    obtain ⟨e8, h⟩ := h
    refine r_iald C0 hO i7 e8 dX8_driver_45 ?_
    exact e_I C0 Y hO hS h (Nat.le_refl _) (Nat.le_refl _) dX8_driver_46
  · have h := h.2 c4
    exact bX8_driver_b36 C0 Y _ _ _ _ h hO hS (lv_sub hl [0, 1] rfl)
def wX8_driver_b0 (x0 : Nat) (x1 : Int32) (Φ : Hp → Int32 → Prop) (S : Hp) : Prop := isA S x0 8 ∧ wX8_isNoShaft S x0 x1 (fun S1 r2 => isA S1 x0 8 ∧ wX8_isThrown S1 x0 r2 1 (fun S4 r5 => ((¬ r5 = 0 → wX8_driver_b36 x0 x1 Φ S4) ∧ (r5 = 0 → isA S4 x0 8 ∧ ∃ a9, S4.FR 519 x0 = some a9 ∧ isA S4 a9 21 ∧ vp_in x1 (S4.N a9) ∧ ((¬ (S4.AI a9 x1.toNatClampNeg) = (-1) → wX8_driver_b29 x0 x1 Φ S4 x0 0) ∧ ((S4.AI a9 x1.toNatClampNeg) = (-1) → wX8_driver_b29 x0 x1 Φ S4 x0 1))))))
set_option maxHeartbeats 4000000 in
set_option maxRecDepth 100000 in
theorem bX8_driver_b0 {p : Program} {l : Launch} {e : Env} {s : State} {m : MethodId} {args : Array Value} {below : List Frame} {meth : Method} {c : Code} {G : Gw} {x0 : Nat} {x1 : Int32} {Φ : Hp → Int32 → Prop} (C0 : Mx p s m c cX8_driver 2 args yX8_driver.cls G) (Y : My meth (some .int))  : ∀ (S : Hp) (H : Heap) (locs : List Loc) (ls : Array Slot), wX8_driver_b0 x0 x1 Φ S → Ok G S H → va_S (Ab G.b) s.heap H locs → lv_has ls 2 [(0, .ref x0), (1, .int x1)] → W p l e rm_X8_driver s m args below meth c H locs 0 0 (MQ below (gQ G (PI Φ)) args s rm_X8_driver.cells rm_X8_driver.slots (Ab G.b)) (F0 m 0 ls []) := by
  intro S H locs ls h hO hS hl
  unfold wX8_driver_b0 at h
  refine lv_aload_n C0.1 C0.2.1 dX8_driver_0 rfl (lv_at hl 0 rfl) ?_
  refine lv_aload_n C0.1 C0.2.1 dX8_driver_1 rfl (lv_at hl 0 rfl) ?_
  refine lv_iload_n C0.1 C0.2.1 dX8_driver_2 rfl (lv_at hl 1 rfl) ?_
  obtain ⟨i3, h⟩ := h
  refine c_V C0 hO hS (mX8_isNoShaft h) i3 (by decide) rfl rfl tb_1459 tb_1461 tb_38 tb_81 tb_1462 hd_X8_isNoShaft rfl ⟨⟨by decide, by decide⟩, by decide, by decide⟩ hl.1 rfl (Nat.le_of_ble_eq_true rfl) dX8_driver_3 (kI (fun r2 S1 H locs h hO hS => ?_))
  refine lv_iconst (v := 1) C0.1 C0.2.1 dX8_driver_6 (by decide) ?_
  obtain ⟨i6, h⟩ := h
  refine c_V C0 hO hS (mX8_isThrown h) i6 (by decide) rfl rfl tb_1451 tb_1453 tb_37 tb_81 tb_1454 hd_X8_isThrown rfl ⟨⟨by decide, by decide⟩, by decide, by decide⟩ hl.1 rfl (Nat.le_of_ble_eq_true rfl) dX8_driver_7 (kI (fun r5 S4 H locs h hO hS => ?_))
  refine lv_if_ne (tgt := 36) C0.1 C0.2.1 dX8_driver_10 (by decide) (fun c7 => ?_) (fun c7 => ?_)
  · have h := h.1 c7
    exact bX8_driver_b36 C0 Y _ _ _ _ h hO hS (lv_sub hl [0, 1] rfl)
  · have h := h.2 c7
    refine lv_aload_n C0.1 C0.2.1 dX8_driver_13 rfl (lv_at hl 0 rfl) ?_
    refine lv_aload_n C0.1 C0.2.1 dX8_driver_14 rfl (lv_at hl 0 rfl) ?_
    obtain ⟨i8, h⟩ := h
    obtain ⟨a9, ea9, h⟩ := h
    refine g8_7 C0 hO i8 ea9 tb_1335 dX8_driver_15 ?_
    refine lv_iload_n C0.1 C0.2.1 dX8_driver_18 rfl (lv_at hl 1 rfl) ?_
    obtain ⟨i10, h⟩ := h
    obtain ⟨e11, h⟩ := h
    refine r_iald C0 hO i10 e11 dX8_driver_19 ?_
    refine lv_iconst (v := (-1)) C0.1 C0.2.1 dX8_driver_20 (by decide) ?_
    refine lv_icmp_ne (tgt := 28) C0.1 C0.2.1 dX8_driver_21 (by decide) (fun c12 => ?_) (fun c12 => ?_)
    · have h := h.1 c12
      refine lv_iconst (v := 0) C0.1 C0.2.1 dX8_driver_28 (by decide) ?_
      exact bX8_driver_b29 C0 Y _ _ _ _ _ _ h hO hS (lv_sub hl [0, 1] rfl)
    · have h := h.2 c12
      refine lv_iconst (v := 1) C0.1 C0.2.1 dX8_driver_24 (by decide) ?_
      refine lv_goto (tgt := 29) C0.1 C0.2.1 dX8_driver_25 (by decide) ?_
      exact bX8_driver_b29 C0 Y _ _ _ _ _ _ h hO hS (lv_sub hl [0, 1] rfl)
def wX8_driver (S : Hp) (x0 : Nat) (x1 : Int32) (Φ : Hp → Int32 → Prop) : Prop := wX8_driver_b0 x0 x1 Φ S
set_option maxRecDepth 100000 in
theorem mX8_driver {l : Launch} {G : Gw} {S : Hp} {x0 : Nat} {x1 : Int32} {Φ : Hp → Int32 → Prop} (h : wX8_driver S x0 x1 Φ) : gM l yX8_driver cX8_driver 2 (some .int) rm_X8_driver [.ref x0, .int x1] G S (PI Φ) := by
  unfold gM
  refine Met.ofW (cc := cX8_driver) (maxL := 2) (ret := (some .int)) (by decide) rfl ?_
  intro p e s m args below meth c s₁ B hml hv
  obtain ⟨rfl, hw⟩ := hv
  obtain ⟨C0, Y, hO⟩ := mx_of B hml hw
  have hS : va_S (Ab G.b) s.heap s.heap [] := va_S.rf
  have hl := lv_entry ([.ref x0, .int x1]) (n := 2) (Nat.le_of_ble_eq_true rfl)
  rw [lg_entry_eq]
  generalize (lg_sl ([.ref x0, .int x1]) ++ List.replicate (2 - (lg_sl ([.ref x0, .int x1])).length) Slot.unset).toArray = ls at hl ⊢
  have hl : lv_has ls 2 [(0, .ref x0), (1, .int x1)] := hl
  exact bX8_driver_b0 C0 Y S _ _ _ h hO hS hl

def rm_X8_freedom : Room := { frames := 0, cells := 0, slots := 0, locals := 0 }
def wX8_freedom_b33 (x0 : Nat) (Φ : Hp → Int32 → Prop) (k9 : Hp → Int32 → Int32 → Prop) (S : Hp) (v2 : Int32) (z0 : Int32) (z1 : Int32) : Prop := k9 S (z0 + z1) (v2 + 1)
set_option maxHeartbeats 4000000 in
set_option maxRecDepth 100000 in
theorem bX8_freedom_b33 {p : Program} {l : Launch} {e : Env} {s : State} {m : MethodId} {args : Array Value} {below : List Frame} {meth : Method} {c : Code} {G : Gw} {x0 : Nat} {Φ : Hp → Int32 → Prop} (C0 : Mx p s m c cX8_freedom 3 args yX8_freedom.cls G) (Y : My meth (some .int)) {k9 : Hp → Int32 → Int32 → Prop} (hk9 : ∀ (S : Hp) (v1 : Int32) (v2 : Int32) (H : Heap) (locs : List Loc) (ls : Array Slot), k9 S v1 v2 → Ok G S H → va_S (Ab G.b) s.heap H locs → lv_has ls 3 [(0, .ref x0), (1, .int v1), (2, .int v2)] → W p l e rm_X8_freedom s m args below meth c H locs 0 0 (MQ below (gQ G (PI Φ)) args s rm_X8_freedom.cells rm_X8_freedom.slots (Ab G.b)) (F0 m 9 ls [])) : ∀ (S : Hp) (v2 : Int32) (z0 : Int32) (z1 : Int32) (H : Heap) (locs : List Loc) (ls : Array Slot), wX8_freedom_b33 x0 Φ k9 S v2 z0 z1 → Ok G S H → va_S (Ab G.b) s.heap H locs → lv_has ls 3 [(0, .ref x0), (2, .int v2)] → W p l e rm_X8_freedom s m args below meth c H locs 0 0 (MQ below (gQ G (PI Φ)) args s rm_X8_freedom.cells rm_X8_freedom.slots (Ab G.b)) (F0 m 33 ls [.int z1, .int z0]) := by
  intro S v2 z0 z1 H locs ls h hO hS hl
  unfold wX8_freedom_b33 at h
  refine lv_iadd C0.1 C0.2.1 dX8_freedom_33 ?_
  refine lv_istore_n C0.1 C0.2.1 dX8_freedom_34 rfl hl (by decide) rfl (fun ls hl => ?_)
  refine lv_iinc (v := _ + 1) C0.1 C0.2.1 dX8_freedom_35 hl (k := 2) rfl rfl (by decide) rfl (fun ls hl => ?_)
  refine lv_goto (tgt := 9) C0.1 C0.2.1 dX8_freedom_38 (by decide) ?_
  exact hk9 _ _ _ _ _ _ h hO hS (lv_sub hl [2, 1, 0] rfl)
def wX8_freedom_b9 (x0 : Nat) (Φ : Hp → Int32 → Prop) (k9 : Hp → Int32 → Int32 → Prop) (S : Hp) (v1 : Int32) (v2 : Int32) : Prop := isA S x0 8 ∧ (((S.FI 543 x0) ≤ v2 → Φ S v1) ∧ (¬ ((S.FI 543 x0) ≤ v2) → ∃ a3, S.FR 519 x0 = some a3 ∧ isA S a3 21 ∧ vp_in v2 (S.N a3) ∧ ((¬ (S.AI a3 v2.toNatClampNeg) = (-1) → wX8_freedom_b33 x0 Φ k9 S v2 v1 0) ∧ ((S.AI a3 v2.toNatClampNeg) = (-1) → wX8_freedom_b33 x0 Φ k9 S v2 v1 1))))
set_option maxHeartbeats 4000000 in
set_option maxRecDepth 100000 in
theorem bX8_freedom_b9 {p : Program} {l : Launch} {e : Env} {s : State} {m : MethodId} {args : Array Value} {below : List Frame} {meth : Method} {c : Code} {G : Gw} {x0 : Nat} {Φ : Hp → Int32 → Prop} (C0 : Mx p s m c cX8_freedom 3 args yX8_freedom.cls G) (Y : My meth (some .int)) {k9 : Hp → Int32 → Int32 → Prop} (hk9 : ∀ (S : Hp) (v1 : Int32) (v2 : Int32) (H : Heap) (locs : List Loc) (ls : Array Slot), k9 S v1 v2 → Ok G S H → va_S (Ab G.b) s.heap H locs → lv_has ls 3 [(0, .ref x0), (1, .int v1), (2, .int v2)] → W p l e rm_X8_freedom s m args below meth c H locs 0 0 (MQ below (gQ G (PI Φ)) args s rm_X8_freedom.cells rm_X8_freedom.slots (Ab G.b)) (F0 m 9 ls [])) : ∀ (S : Hp) (v1 : Int32) (v2 : Int32) (H : Heap) (locs : List Loc) (ls : Array Slot), wX8_freedom_b9 x0 Φ k9 S v1 v2 → Ok G S H → va_S (Ab G.b) s.heap H locs → lv_has ls 3 [(0, .ref x0), (1, .int v1), (2, .int v2)] → W p l e rm_X8_freedom s m args below meth c H locs 0 0 (MQ below (gQ G (PI Φ)) args s rm_X8_freedom.cells rm_X8_freedom.slots (Ab G.b)) (F0 m 9 ls []) := by
  intro S v1 v2 H locs ls h hO hS hl
  unfold wX8_freedom_b9 at h
  refine lv_iload_n C0.1 C0.2.1 dX8_freedom_9 rfl (lv_at hl 2 rfl) ?_
  refine lv_aload_n C0.1 C0.2.1 dX8_freedom_10 rfl (lv_at hl 0 rfl) ?_
  obtain ⟨i1, h⟩ := h
  refine g8_31 C0 hO i1 tb_1359 dX8_freedom_11 ?_
  refine lv_icmp_ge (tgt := 41) C0.1 C0.2.1 dX8_freedom_14 (by decide) (fun c2 => ?_) (fun c2 => ?_)
  · have h := h.1 c2
    refine lv_iload_n C0.1 C0.2.1 dX8_freedom_41 rfl (lv_at hl 1 rfl) ?_
    exact e_I C0 Y hO hS h (Nat.le_refl _) (Nat.le_refl _) dX8_freedom_42
  · have h := h.2 c2
    refine lv_iload_n C0.1 C0.2.1 dX8_freedom_17 rfl (lv_at hl 1 rfl) ?_
    refine lv_aload_n C0.1 C0.2.1 dX8_freedom_18 rfl (lv_at hl 0 rfl) ?_
    obtain ⟨a3, ea3, h⟩ := h
    refine g8_7 C0 hO i1 ea3 tb_1335 dX8_freedom_19 ?_
    refine lv_iload_n C0.1 C0.2.1 dX8_freedom_22 rfl (lv_at hl 2 rfl) ?_
    obtain ⟨i4, h⟩ := h
    obtain ⟨e5, h⟩ := h
    refine r_iald C0 hO i4 e5 dX8_freedom_23 ?_
    refine lv_iconst (v := (-1)) C0.1 C0.2.1 dX8_freedom_24 (by decide) ?_
    refine lv_icmp_ne (tgt := 32) C0.1 C0.2.1 dX8_freedom_25 (by decide) (fun c6 => ?_) (fun c6 => ?_)
    · have h := h.1 c6
      refine lv_iconst (v := 0) C0.1 C0.2.1 dX8_freedom_32 (by decide) ?_
      exact bX8_freedom_b33 C0 Y hk9 _ _ _ _ _ _ _ h hO hS (lv_sub hl [0, 2] rfl)
    · have h := h.2 c6
      refine lv_iconst (v := 1) C0.1 C0.2.1 dX8_freedom_28 (by decide) ?_
      refine lv_goto (tgt := 33) C0.1 C0.2.1 dX8_freedom_29 (by decide) ?_
      exact bX8_freedom_b33 C0 Y hk9 _ _ _ _ _ _ _ h hO hS (lv_sub hl [0, 2] rfl)
set_option maxHeartbeats 4000000 in
set_option maxRecDepth 100000 in
theorem lX8_freedom_b9 {p : Program} {l : Launch} {e : Env} {s : State} {m : MethodId} {args : Array Value} {below : List Frame} {meth : Method} {c : Code} {G : Gw} {x0 : Nat} {Φ : Hp → Int32 → Prop} (C0 : Mx p s m c cX8_freedom 3 args yX8_freedom.cls G) (Y : My meth (some .int))  : ∀ n9 : Nat, ∀ (S : Hp) (v1 : Int32) (v2 : Int32) (H : Heap) (locs : List Loc) (ls : Array Slot), it3 (wX8_freedom_b9 x0 Φ) n9 S v1 v2 → Ok G S H → va_S (Ab G.b) s.heap H locs → lv_has ls 3 [(0, .ref x0), (1, .int v1), (2, .int v2)] → W p l e rm_X8_freedom s m args below meth c H locs 0 0 (MQ below (gQ G (PI Φ)) args s rm_X8_freedom.cells rm_X8_freedom.slots (Ab G.b)) (F0 m 9 ls []) := by
  intro n9
  induction n9 with
  | zero => intro S v1 v2 H locs ls h; exact (h : False).elim
  | succ n9 ih => intro S v1 v2 H locs ls h hO hS hl; exact bX8_freedom_b9 C0 Y ih S v1 v2 H locs ls h hO hS hl
def wX8_freedom_b0 (x0 : Nat) (Φ : Hp → Int32 → Prop) (S : Hp) : Prop := isA S x0 8 ∧ ∀ S2, S2 = S.setFI 549 x0 0 → ∃ n, it3 (wX8_freedom_b9 x0 Φ) n S2 0 0
set_option maxHeartbeats 4000000 in
set_option maxRecDepth 100000 in
theorem bX8_freedom_b0 {p : Program} {l : Launch} {e : Env} {s : State} {m : MethodId} {args : Array Value} {below : List Frame} {meth : Method} {c : Code} {G : Gw} {x0 : Nat} {Φ : Hp → Int32 → Prop} (C0 : Mx p s m c cX8_freedom 3 args yX8_freedom.cls G) (Y : My meth (some .int))  : ∀ (S : Hp) (H : Heap) (locs : List Loc) (ls : Array Slot), wX8_freedom_b0 x0 Φ S → Ok G S H → va_S (Ab G.b) s.heap H locs → lv_has ls 3 [(0, .ref x0)] → W p l e rm_X8_freedom s m args below meth c H locs 0 0 (MQ below (gQ G (PI Φ)) args s rm_X8_freedom.cells rm_X8_freedom.slots (Ab G.b)) (F0 m 0 ls []) := by
  intro S H locs ls h hO hS hl
  unfold wX8_freedom_b0 at h
  refine lv_aload_n C0.1 C0.2.1 dX8_freedom_0 rfl (lv_at hl 0 rfl) ?_
  refine lv_iconst (v := 0) C0.1 C0.2.1 dX8_freedom_1 (by decide) ?_
  obtain ⟨i1, h⟩ := h
  refine p8_37 C0 hO hS i1 tb_1365 dX8_freedom_2 (fun H locs hO hS => ?_)
  have h := h _ rfl
  refine lv_iconst (v := 0) C0.1 C0.2.1 dX8_freedom_5 (by decide) ?_
  refine lv_istore_n C0.1 C0.2.1 dX8_freedom_6 rfl hl (by decide) rfl (fun ls hl => ?_)
  refine lv_iconst (v := 0) C0.1 C0.2.1 dX8_freedom_7 (by decide) ?_
  refine lv_istore_n C0.1 C0.2.1 dX8_freedom_8 rfl hl (by decide) rfl (fun ls hl => ?_)
  obtain ⟨n9, h⟩ := h
  exact lX8_freedom_b9 C0 Y n9 _ _ _ _ _ _ h hO hS (lv_sub hl [2, 1, 0] rfl)
def wX8_freedom (S : Hp) (x0 : Nat) (Φ : Hp → Int32 → Prop) : Prop := wX8_freedom_b0 x0 Φ S
set_option maxRecDepth 100000 in
theorem mX8_freedom {l : Launch} {G : Gw} {S : Hp} {x0 : Nat} {Φ : Hp → Int32 → Prop} (h : wX8_freedom S x0 Φ) : gM l yX8_freedom cX8_freedom 3 (some .int) rm_X8_freedom [.ref x0] G S (PI Φ) := by
  unfold gM
  refine Met.ofW (cc := cX8_freedom) (maxL := 3) (ret := (some .int)) (by decide) rfl ?_
  intro p e s m args below meth c s₁ B hml hv
  obtain ⟨rfl, hw⟩ := hv
  obtain ⟨C0, Y, hO⟩ := mx_of B hml hw
  have hS : va_S (Ab G.b) s.heap s.heap [] := va_S.rf
  have hl := lv_entry ([.ref x0]) (n := 3) (Nat.le_of_ble_eq_true rfl)
  rw [lg_entry_eq]
  generalize (lg_sl ([.ref x0]) ++ List.replicate (3 - (lg_sl ([.ref x0])).length) Slot.unset).toArray = ls at hl ⊢
  have hl : lv_has ls 3 [(0, .ref x0)] := hl
  exact bX8_freedom_b0 C0 Y S _ _ _ h hO hS hl

def rm_X8_wornOver : Room := { frames := 2, cells := 0, slots := 0, locals := 43 }
def wX8_wornOver_b0 (x0 : Nat) (x1 : Int32) (Φ : Hp → Int64 → Prop) (S : Hp) : Prop := isA S x0 8 ∧ wX8_isNoLink S x0 x1 (fun S1 r2 => isA S1 x0 8 ∧ wX8_isThrown S1 x0 r2 1 (fun S4 r5 => ((r5 = 0 → isA S4 x0 8 ∧ ∃ a9, S4.FR 531 x0 = some a9 ∧ isA S4 a9 22 ∧ vp_in x1 (S4.N a9) ∧ Φ S4 (S4.AJ a9 x1.toNatClampNeg)) ∧ (¬ (r5 = 0) → Φ S4 0))))
set_option maxHeartbeats 4000000 in
set_option maxRecDepth 100000 in
theorem bX8_wornOver_b0 {p : Program} {l : Launch} {e : Env} {s : State} {m : MethodId} {args : Array Value} {below : List Frame} {meth : Method} {c : Code} {G : Gw} {x0 : Nat} {x1 : Int32} {Φ : Hp → Int64 → Prop} (C0 : Mx p s m c cX8_wornOver 2 args yX8_wornOver.cls G) (Y : My meth (some .long))  : ∀ (S : Hp) (H : Heap) (locs : List Loc) (ls : Array Slot), wX8_wornOver_b0 x0 x1 Φ S → Ok G S H → va_S (Ab G.b) s.heap H locs → lv_has ls 2 [(0, .ref x0), (1, .int x1)] → W p l e rm_X8_wornOver s m args below meth c H locs 0 0 (MQ below (gQ G (PJ Φ)) args s rm_X8_wornOver.cells rm_X8_wornOver.slots (Ab G.b)) (F0 m 0 ls []) := by
  intro S H locs ls h hO hS hl
  unfold wX8_wornOver_b0 at h
  refine lv_aload_n C0.1 C0.2.1 dX8_wornOver_0 rfl (lv_at hl 0 rfl) ?_
  refine lv_aload_n C0.1 C0.2.1 dX8_wornOver_1 rfl (lv_at hl 0 rfl) ?_
  refine lv_iload_n C0.1 C0.2.1 dX8_wornOver_2 rfl (lv_at hl 1 rfl) ?_
  obtain ⟨i3, h⟩ := h
  refine c_V C0 hO hS (mX8_isNoLink h) i3 (by decide) rfl rfl tb_1506 tb_1508 tb_45 tb_81 tb_1509 hd_X8_isNoLink rfl ⟨⟨by decide, by decide⟩, by decide, by decide⟩ hl.1 rfl (Nat.le_of_ble_eq_true rfl) dX8_wornOver_3 (kI (fun r2 S1 H locs h hO hS => ?_))
  refine lv_iconst (v := 1) C0.1 C0.2.1 dX8_wornOver_6 (by decide) ?_
  obtain ⟨i6, h⟩ := h
  refine c_V C0 hO hS (mX8_isThrown h) i6 (by decide) rfl rfl tb_1451 tb_1453 tb_37 tb_81 tb_1454 hd_X8_isThrown rfl ⟨⟨by decide, by decide⟩, by decide, by decide⟩ hl.1 rfl (Nat.le_of_ble_eq_true rfl) dX8_wornOver_7 (kI (fun r5 S4 H locs h hO hS => ?_))
  refine lv_if_eq (tgt := 17) C0.1 C0.2.1 dX8_wornOver_10 (by decide) (fun c7 => ?_) (fun c7 => ?_)
  · have h := h.1 c7
    refine lv_aload_n C0.1 C0.2.1 dX8_wornOver_17 rfl (lv_at hl 0 rfl) ?_
    obtain ⟨i8, h⟩ := h
    obtain ⟨a9, ea9, h⟩ := h
    refine g8_19 C0 hO i8 ea9 tb_1347 dX8_wornOver_18 ?_
    refine lv_iload_n C0.1 C0.2.1 dX8_wornOver_21 rfl (lv_at hl 1 rfl) ?_
    obtain ⟨i10, h⟩ := h
    obtain ⟨e11, h⟩ := h
    refine r_lald C0 hO i10 e11 dX8_wornOver_22 ?_
    exact e_J C0 Y hO hS h (Nat.le_refl _) (Nat.le_refl _) dX8_wornOver_23
  · have h := h.2 c7
    refine lv_lconst (v := 0) C0.1 C0.2.1 dX8_wornOver_13 (by decide) ?_
    refine lv_goto (tgt := 23) C0.1 C0.2.1 dX8_wornOver_14 (by decide) ?_
    exact e_J C0 Y hO hS h (Nat.le_refl _) (Nat.le_refl _) dX8_wornOver_23
def wX8_wornOver (S : Hp) (x0 : Nat) (x1 : Int32) (Φ : Hp → Int64 → Prop) : Prop := wX8_wornOver_b0 x0 x1 Φ S
set_option maxRecDepth 100000 in
theorem mX8_wornOver {l : Launch} {G : Gw} {S : Hp} {x0 : Nat} {x1 : Int32} {Φ : Hp → Int64 → Prop} (h : wX8_wornOver S x0 x1 Φ) : gM l yX8_wornOver cX8_wornOver 2 (some .long) rm_X8_wornOver [.ref x0, .int x1] G S (PJ Φ) := by
  unfold gM
  refine Met.ofW (cc := cX8_wornOver) (maxL := 2) (ret := (some .long)) (by decide) rfl ?_
  intro p e s m args below meth c s₁ B hml hv
  obtain ⟨rfl, hw⟩ := hv
  obtain ⟨C0, Y, hO⟩ := mx_of B hml hw
  have hS : va_S (Ab G.b) s.heap s.heap [] := va_S.rf
  have hl := lv_entry ([.ref x0, .int x1]) (n := 2) (Nat.le_of_ble_eq_true rfl)
  rw [lg_entry_eq]
  generalize (lg_sl ([.ref x0, .int x1]) ++ List.replicate (2 - (lg_sl ([.ref x0, .int x1])).length) Slot.unset).toArray = ls at hl ⊢
  have hl : lv_has ls 2 [(0, .ref x0), (1, .int x1)] := hl
  exact bX8_wornOver_b0 C0 Y S _ _ _ h hO hS hl

def rm_X8_wornUnder : Room := { frames := 2, cells := 0, slots := 0, locals := 43 }
def wX8_wornUnder_b0 (x0 : Nat) (x1 : Int32) (Φ : Hp → Int64 → Prop) (S : Hp) : Prop := isA S x0 8 ∧ wX8_isNoLink S x0 x1 (fun S1 r2 => isA S1 x0 8 ∧ wX8_isThrown S1 x0 r2 1 (fun S4 r5 => ((r5 = 0 → isA S4 x0 8 ∧ ∃ a9, S4.FR 532 x0 = some a9 ∧ isA S4 a9 22 ∧ vp_in x1 (S4.N a9) ∧ Φ S4 (S4.AJ a9 x1.toNatClampNeg)) ∧ (¬ (r5 = 0) → Φ S4 0))))
set_option maxHeartbeats 4000000 in
set_option maxRecDepth 100000 in
theorem bX8_wornUnder_b0 {p : Program} {l : Launch} {e : Env} {s : State} {m : MethodId} {args : Array Value} {below : List Frame} {meth : Method} {c : Code} {G : Gw} {x0 : Nat} {x1 : Int32} {Φ : Hp → Int64 → Prop} (C0 : Mx p s m c cX8_wornUnder 2 args yX8_wornUnder.cls G) (Y : My meth (some .long))  : ∀ (S : Hp) (H : Heap) (locs : List Loc) (ls : Array Slot), wX8_wornUnder_b0 x0 x1 Φ S → Ok G S H → va_S (Ab G.b) s.heap H locs → lv_has ls 2 [(0, .ref x0), (1, .int x1)] → W p l e rm_X8_wornUnder s m args below meth c H locs 0 0 (MQ below (gQ G (PJ Φ)) args s rm_X8_wornUnder.cells rm_X8_wornUnder.slots (Ab G.b)) (F0 m 0 ls []) := by
  intro S H locs ls h hO hS hl
  unfold wX8_wornUnder_b0 at h
  refine lv_aload_n C0.1 C0.2.1 dX8_wornUnder_0 rfl (lv_at hl 0 rfl) ?_
  refine lv_aload_n C0.1 C0.2.1 dX8_wornUnder_1 rfl (lv_at hl 0 rfl) ?_
  refine lv_iload_n C0.1 C0.2.1 dX8_wornUnder_2 rfl (lv_at hl 1 rfl) ?_
  obtain ⟨i3, h⟩ := h
  refine c_V C0 hO hS (mX8_isNoLink h) i3 (by decide) rfl rfl tb_1506 tb_1508 tb_45 tb_81 tb_1509 hd_X8_isNoLink rfl ⟨⟨by decide, by decide⟩, by decide, by decide⟩ hl.1 rfl (Nat.le_of_ble_eq_true rfl) dX8_wornUnder_3 (kI (fun r2 S1 H locs h hO hS => ?_))
  refine lv_iconst (v := 1) C0.1 C0.2.1 dX8_wornUnder_6 (by decide) ?_
  obtain ⟨i6, h⟩ := h
  refine c_V C0 hO hS (mX8_isThrown h) i6 (by decide) rfl rfl tb_1451 tb_1453 tb_37 tb_81 tb_1454 hd_X8_isThrown rfl ⟨⟨by decide, by decide⟩, by decide, by decide⟩ hl.1 rfl (Nat.le_of_ble_eq_true rfl) dX8_wornUnder_7 (kI (fun r5 S4 H locs h hO hS => ?_))
  refine lv_if_eq (tgt := 17) C0.1 C0.2.1 dX8_wornUnder_10 (by decide) (fun c7 => ?_) (fun c7 => ?_)
  · have h := h.1 c7
    refine lv_aload_n C0.1 C0.2.1 dX8_wornUnder_17 rfl (lv_at hl 0 rfl) ?_
    obtain ⟨i8, h⟩ := h
    obtain ⟨a9, ea9, h⟩ := h
    refine g8_20 C0 hO i8 ea9 tb_1348 dX8_wornUnder_18 ?_
    refine lv_iload_n C0.1 C0.2.1 dX8_wornUnder_21 rfl (lv_at hl 1 rfl) ?_
    obtain ⟨i10, h⟩ := h
    obtain ⟨e11, h⟩ := h
    refine r_lald C0 hO i10 e11 dX8_wornUnder_22 ?_
    exact e_J C0 Y hO hS h (Nat.le_refl _) (Nat.le_refl _) dX8_wornUnder_23
  · have h := h.2 c7
    refine lv_lconst (v := 0) C0.1 C0.2.1 dX8_wornUnder_13 (by decide) ?_
    refine lv_goto (tgt := 23) C0.1 C0.2.1 dX8_wornUnder_14 (by decide) ?_
    exact e_J C0 Y hO hS h (Nat.le_refl _) (Nat.le_refl _) dX8_wornUnder_23
def wX8_wornUnder (S : Hp) (x0 : Nat) (x1 : Int32) (Φ : Hp → Int64 → Prop) : Prop := wX8_wornUnder_b0 x0 x1 Φ S
set_option maxRecDepth 100000 in
theorem mX8_wornUnder {l : Launch} {G : Gw} {S : Hp} {x0 : Nat} {x1 : Int32} {Φ : Hp → Int64 → Prop} (h : wX8_wornUnder S x0 x1 Φ) : gM l yX8_wornUnder cX8_wornUnder 2 (some .long) rm_X8_wornUnder [.ref x0, .int x1] G S (PJ Φ) := by
  unfold gM
  refine Met.ofW (cc := cX8_wornUnder) (maxL := 2) (ret := (some .long)) (by decide) rfl ?_
  intro p e s m args below meth c s₁ B hml hv
  obtain ⟨rfl, hw⟩ := hv
  obtain ⟨C0, Y, hO⟩ := mx_of B hml hw
  have hS : va_S (Ab G.b) s.heap s.heap [] := va_S.rf
  have hl := lv_entry ([.ref x0, .int x1]) (n := 2) (Nat.le_of_ble_eq_true rfl)
  rw [lg_entry_eq]
  generalize (lg_sl ([.ref x0, .int x1]) ++ List.replicate (2 - (lg_sl ([.ref x0, .int x1])).length) Slot.unset).toArray = ls at hl ⊢
  have hl : lv_has ls 2 [(0, .ref x0), (1, .int x1)] := hl
  exact bX8_wornUnder_b0 C0 Y S _ _ _ h hO hS hl

def rm_X8_isBroken : Room := { frames := 2, cells := 0, slots := 0, locals := 43 }
def wX8_isBroken_b0 (x0 : Nat) (x1 : Int32) (Φ : Hp → Int32 → Prop) (S : Hp) : Prop := isA S x0 8 ∧ wX8_isNoLink S x0 x1 (fun S1 r2 => isA S1 x0 8 ∧ wX8_isThrown S1 x0 r2 1 (fun S4 r5 => ((¬ r5 = 0 → Φ S4 0) ∧ (r5 = 0 → isA S4 x0 8 ∧ ∃ a9, S4.FR 528 x0 = some a9 ∧ isA S4 a9 23 ∧ vp_in x1 (S4.N a9) ∧ (((S4.AI a9 x1.toNatClampNeg) = 0 → Φ S4 0) ∧ (¬ ((S4.AI a9 x1.toNatClampNeg) = 0) → Φ S4 1))))))
set_option maxHeartbeats 4000000 in
set_option maxRecDepth 100000 in
theorem bX8_isBroken_b0 {p : Program} {l : Launch} {e : Env} {s : State} {m : MethodId} {args : Array Value} {below : List Frame} {meth : Method} {c : Code} {G : Gw} {x0 : Nat} {x1 : Int32} {Φ : Hp → Int32 → Prop} (C0 : Mx p s m c cX8_isBroken 2 args yX8_isBroken.cls G) (Y : My meth (some .boolean))  : ∀ (S : Hp) (H : Heap) (locs : List Loc) (ls : Array Slot), wX8_isBroken_b0 x0 x1 Φ S → Ok G S H → va_S (Ab G.b) s.heap H locs → lv_has ls 2 [(0, .ref x0), (1, .int x1)] → W p l e rm_X8_isBroken s m args below meth c H locs 0 0 (MQ below (gQ G (PI Φ)) args s rm_X8_isBroken.cells rm_X8_isBroken.slots (Ab G.b)) (F0 m 0 ls []) := by
  intro S H locs ls h hO hS hl
  unfold wX8_isBroken_b0 at h
  refine lv_aload_n C0.1 C0.2.1 dX8_isBroken_0 rfl (lv_at hl 0 rfl) ?_
  refine lv_aload_n C0.1 C0.2.1 dX8_isBroken_1 rfl (lv_at hl 0 rfl) ?_
  refine lv_iload_n C0.1 C0.2.1 dX8_isBroken_2 rfl (lv_at hl 1 rfl) ?_
  obtain ⟨i3, h⟩ := h
  refine c_V C0 hO hS (mX8_isNoLink h) i3 (by decide) rfl rfl tb_1506 tb_1508 tb_45 tb_81 tb_1509 hd_X8_isNoLink rfl ⟨⟨by decide, by decide⟩, by decide, by decide⟩ hl.1 rfl (Nat.le_of_ble_eq_true rfl) dX8_isBroken_3 (kI (fun r2 S1 H locs h hO hS => ?_))
  refine lv_iconst (v := 1) C0.1 C0.2.1 dX8_isBroken_6 (by decide) ?_
  obtain ⟨i6, h⟩ := h
  refine c_V C0 hO hS (mX8_isThrown h) i6 (by decide) rfl rfl tb_1451 tb_1453 tb_37 tb_81 tb_1454 hd_X8_isThrown rfl ⟨⟨by decide, by decide⟩, by decide, by decide⟩ hl.1 rfl (Nat.le_of_ble_eq_true rfl) dX8_isBroken_7 (kI (fun r5 S4 H locs h hO hS => ?_))
  refine lv_if_ne (tgt := 26) C0.1 C0.2.1 dX8_isBroken_10 (by decide) (fun c7 => ?_) (fun c7 => ?_)
  · have h := h.1 c7
    refine lv_iconst (v := 0) C0.1 C0.2.1 dX8_isBroken_26 (by decide) ?_
    exact e_Z C0 Y hO hS rfl h (Nat.le_refl _) (Nat.le_refl _) dX8_isBroken_27
  · have h := h.2 c7
    refine lv_aload_n C0.1 C0.2.1 dX8_isBroken_13 rfl (lv_at hl 0 rfl) ?_
    obtain ⟨i8, h⟩ := h
    obtain ⟨a9, ea9, h⟩ := h
    refine g8_16 C0 hO i8 ea9 tb_1344 dX8_isBroken_14 ?_
    refine lv_iload_n C0.1 C0.2.1 dX8_isBroken_17 rfl (lv_at hl 1 rfl) ?_
    obtain ⟨i10, h⟩ := h
    obtain ⟨e11, h⟩ := h
    refine r_zald C0 hO i10 e11 dX8_isBroken_18 ?_
    refine lv_if_eq (tgt := 26) C0.1 C0.2.1 dX8_isBroken_19 (by decide) (fun c12 => ?_) (fun c12 => ?_)
    · have h := h.1 c12
      refine lv_iconst (v := 0) C0.1 C0.2.1 dX8_isBroken_26 (by decide) ?_
      exact e_Z C0 Y hO hS rfl h (Nat.le_refl _) (Nat.le_refl _) dX8_isBroken_27
    · have h := h.2 c12
      refine lv_iconst (v := 1) C0.1 C0.2.1 dX8_isBroken_22 (by decide) ?_
      refine lv_goto (tgt := 27) C0.1 C0.2.1 dX8_isBroken_23 (by decide) ?_
      exact e_Z C0 Y hO hS rfl h (Nat.le_refl _) (Nat.le_refl _) dX8_isBroken_27
def wX8_isBroken (S : Hp) (x0 : Nat) (x1 : Int32) (Φ : Hp → Int32 → Prop) : Prop := wX8_isBroken_b0 x0 x1 Φ S
set_option maxRecDepth 100000 in
theorem mX8_isBroken {l : Launch} {G : Gw} {S : Hp} {x0 : Nat} {x1 : Int32} {Φ : Hp → Int32 → Prop} (h : wX8_isBroken S x0 x1 Φ) : gM l yX8_isBroken cX8_isBroken 2 (some .boolean) rm_X8_isBroken [.ref x0, .int x1] G S (PI Φ) := by
  unfold gM
  refine Met.ofW (cc := cX8_isBroken) (maxL := 2) (ret := (some .boolean)) (by decide) rfl ?_
  intro p e s m args below meth c s₁ B hml hv
  obtain ⟨rfl, hw⟩ := hv
  obtain ⟨C0, Y, hO⟩ := mx_of B hml hw
  have hS : va_S (Ab G.b) s.heap s.heap [] := va_S.rf
  have hl := lv_entry ([.ref x0, .int x1]) (n := 2) (Nat.le_of_ble_eq_true rfl)
  rw [lg_entry_eq]
  generalize (lg_sl ([.ref x0, .int x1]) ++ List.replicate (2 - (lg_sl ([.ref x0, .int x1])).length) Slot.unset).toArray = ls at hl ⊢
  have hl : lv_has ls 2 [(0, .ref x0), (1, .int x1)] := hl
  exact bX8_isBroken_b0 C0 Y S _ _ _ h hO hS hl

def rm_X8_repair : Room := { frames := 2, cells := 0, slots := 0, locals := 50 }
def wX8_repair_b123 (x0 : Nat) (x1 : Int32) (Φ : Hp → Int32 → Prop) (k100 : Hp → Int32 → Int32 → Prop) (S : Hp) (v3 : Int32) (z0 : Int32) (z1 : Int32) : Prop := k100 S (z0 + z1) (v3 + 1)
set_option maxHeartbeats 4000000 in
set_option maxRecDepth 100000 in
theorem bX8_repair_b123 {p : Program} {l : Launch} {e : Env} {s : State} {m : MethodId} {args : Array Value} {below : List Frame} {meth : Method} {c : Code} {G : Gw} {x0 : Nat} {x1 : Int32} {Φ : Hp → Int32 → Prop} (C0 : Mx p s m c cX8_repair 4 args yX8_repair.cls G) (Y : My meth (some .int)) {k100 : Hp → Int32 → Int32 → Prop} (hk100 : ∀ (S : Hp) (v2 : Int32) (v3 : Int32) (H : Heap) (locs : List Loc) (ls : Array Slot), k100 S v2 v3 → Ok G S H → va_S (Ab G.b) s.heap H locs → lv_has ls 4 [(0, .ref x0), (1, .int x1), (2, .int v2), (3, .int v3)] → W p l e rm_X8_repair s m args below meth c H locs 0 0 (MQ below (gQ G (PI Φ)) args s rm_X8_repair.cells rm_X8_repair.slots (Ab G.b)) (F0 m 100 ls [])) : ∀ (S : Hp) (v3 : Int32) (z0 : Int32) (z1 : Int32) (H : Heap) (locs : List Loc) (ls : Array Slot), wX8_repair_b123 x0 x1 Φ k100 S v3 z0 z1 → Ok G S H → va_S (Ab G.b) s.heap H locs → lv_has ls 4 [(0, .ref x0), (1, .int x1), (3, .int v3)] → W p l e rm_X8_repair s m args below meth c H locs 0 0 (MQ below (gQ G (PI Φ)) args s rm_X8_repair.cells rm_X8_repair.slots (Ab G.b)) (F0 m 123 ls [.int z1, .int z0]) := by
  intro S v3 z0 z1 H locs ls h hO hS hl
  unfold wX8_repair_b123 at h
  refine lv_iadd C0.1 C0.2.1 dX8_repair_123 ?_
  refine lv_istore_n C0.1 C0.2.1 dX8_repair_124 rfl hl (by decide) rfl (fun ls hl => ?_)
  refine lv_iinc (v := _ + 1) C0.1 C0.2.1 dX8_repair_125 hl (k := 3) rfl rfl (by decide) rfl (fun ls hl => ?_)
  refine lv_goto (tgt := 100) C0.1 C0.2.1 dX8_repair_128 (by decide) ?_
  exact hk100 _ _ _ _ _ _ h hO hS (lv_sub hl [2, 3, 1, 0] rfl)
def wX8_repair_b100 (x0 : Nat) (x1 : Int32) (Φ : Hp → Int32 → Prop) (k100 : Hp → Int32 → Int32 → Prop) (S : Hp) (v2 : Int32) (v3 : Int32) : Prop := isA S x0 8 ∧ (((S.FI 544 x0) ≤ v3 → Φ S v2) ∧ (¬ ((S.FI 544 x0) ≤ v3) → ∃ a3, S.FR 528 x0 = some a3 ∧ isA S a3 23 ∧ vp_in v3 (S.N a3) ∧ (((S.AI a3 v3.toNatClampNeg) = 0 → wX8_repair_b123 x0 x1 Φ k100 S v3 v2 0) ∧ (¬ ((S.AI a3 v3.toNatClampNeg) = 0) → wX8_repair_b123 x0 x1 Φ k100 S v3 v2 1))))
set_option maxHeartbeats 4000000 in
set_option maxRecDepth 100000 in
theorem bX8_repair_b100 {p : Program} {l : Launch} {e : Env} {s : State} {m : MethodId} {args : Array Value} {below : List Frame} {meth : Method} {c : Code} {G : Gw} {x0 : Nat} {x1 : Int32} {Φ : Hp → Int32 → Prop} (C0 : Mx p s m c cX8_repair 4 args yX8_repair.cls G) (Y : My meth (some .int)) {k100 : Hp → Int32 → Int32 → Prop} (hk100 : ∀ (S : Hp) (v2 : Int32) (v3 : Int32) (H : Heap) (locs : List Loc) (ls : Array Slot), k100 S v2 v3 → Ok G S H → va_S (Ab G.b) s.heap H locs → lv_has ls 4 [(0, .ref x0), (1, .int x1), (2, .int v2), (3, .int v3)] → W p l e rm_X8_repair s m args below meth c H locs 0 0 (MQ below (gQ G (PI Φ)) args s rm_X8_repair.cells rm_X8_repair.slots (Ab G.b)) (F0 m 100 ls [])) : ∀ (S : Hp) (v2 : Int32) (v3 : Int32) (H : Heap) (locs : List Loc) (ls : Array Slot), wX8_repair_b100 x0 x1 Φ k100 S v2 v3 → Ok G S H → va_S (Ab G.b) s.heap H locs → lv_has ls 4 [(0, .ref x0), (1, .int x1), (2, .int v2), (3, .int v3)] → W p l e rm_X8_repair s m args below meth c H locs 0 0 (MQ below (gQ G (PI Φ)) args s rm_X8_repair.cells rm_X8_repair.slots (Ab G.b)) (F0 m 100 ls []) := by
  intro S v2 v3 H locs ls h hO hS hl
  unfold wX8_repair_b100 at h
  refine lv_iload_n C0.1 C0.2.1 dX8_repair_100 rfl (lv_at hl 3 rfl) ?_
  refine lv_aload_n C0.1 C0.2.1 dX8_repair_101 rfl (lv_at hl 0 rfl) ?_
  obtain ⟨i1, h⟩ := h
  refine g8_32 C0 hO i1 tb_1360 dX8_repair_102 ?_
  refine lv_icmp_ge (tgt := 131) C0.1 C0.2.1 dX8_repair_105 (by decide) (fun c2 => ?_) (fun c2 => ?_)
  · have h := h.1 c2
    refine lv_iload_n C0.1 C0.2.1 dX8_repair_131 rfl (lv_at hl 2 rfl) ?_
    exact e_I C0 Y hO hS h (Nat.le_refl _) (Nat.le_refl _) dX8_repair_132
  · have h := h.2 c2
    refine lv_iload_n C0.1 C0.2.1 dX8_repair_108 rfl (lv_at hl 2 rfl) ?_
    refine lv_aload_n C0.1 C0.2.1 dX8_repair_109 rfl (lv_at hl 0 rfl) ?_
    obtain ⟨a3, ea3, h⟩ := h
    refine g8_16 C0 hO i1 ea3 tb_1344 dX8_repair_110 ?_
    refine lv_iload_n C0.1 C0.2.1 dX8_repair_113 rfl (lv_at hl 3 rfl) ?_
    obtain ⟨i4, h⟩ := h
    obtain ⟨e5, h⟩ := h
    refine r_zald C0 hO i4 e5 dX8_repair_114 ?_
    refine lv_if_eq (tgt := 122) C0.1 C0.2.1 dX8_repair_115 (by decide) (fun c6 => ?_) (fun c6 => ?_)
    · have h := h.1 c6
      refine lv_iconst (v := 0) C0.1 C0.2.1 dX8_repair_122 (by decide) ?_
      exact bX8_repair_b123 C0 Y hk100 _ _ _ _ _ _ _ h hO hS (lv_sub hl [0, 1, 3] rfl)
    · have h := h.2 c6
      refine lv_iconst (v := 1) C0.1 C0.2.1 dX8_repair_118 (by decide) ?_
      refine lv_goto (tgt := 123) C0.1 C0.2.1 dX8_repair_119 (by decide) ?_
      exact bX8_repair_b123 C0 Y hk100 _ _ _ _ _ _ _ h hO hS (lv_sub hl [0, 1, 3] rfl)
set_option maxHeartbeats 4000000 in
set_option maxRecDepth 100000 in
theorem lX8_repair_b100 {p : Program} {l : Launch} {e : Env} {s : State} {m : MethodId} {args : Array Value} {below : List Frame} {meth : Method} {c : Code} {G : Gw} {x0 : Nat} {x1 : Int32} {Φ : Hp → Int32 → Prop} (C0 : Mx p s m c cX8_repair 4 args yX8_repair.cls G) (Y : My meth (some .int))  : ∀ n9 : Nat, ∀ (S : Hp) (v2 : Int32) (v3 : Int32) (H : Heap) (locs : List Loc) (ls : Array Slot), it3 (wX8_repair_b100 x0 x1 Φ) n9 S v2 v3 → Ok G S H → va_S (Ab G.b) s.heap H locs → lv_has ls 4 [(0, .ref x0), (1, .int x1), (2, .int v2), (3, .int v3)] → W p l e rm_X8_repair s m args below meth c H locs 0 0 (MQ below (gQ G (PI Φ)) args s rm_X8_repair.cells rm_X8_repair.slots (Ab G.b)) (F0 m 100 ls []) := by
  intro n9
  induction n9 with
  | zero => intro S v2 v3 H locs ls h; exact (h : False).elim
  | succ n9 ih => intro S v2 v3 H locs ls h hO hS hl; exact bX8_repair_b100 C0 Y ih S v2 v3 H locs ls h hO hS hl
def wX8_repair_b28 (x0 : Nat) (x1 : Int32) (Φ : Hp → Int32 → Prop) (S : Hp) (z0 : Nat) (z1 : Int32) : Prop := isA S z0 8 ∧ wX8_isThrown S z0 z1 2 (fun S1 r2 => ((r2 = 0 → isA S1 x0 8 ∧ ∃ a6, S1.FR 528 x0 = some a6 ∧ isA S1 a6 23 ∧ vp_in x1 (S1.N a6) ∧ ∀ S9, S9 = S1.setAI a6 x1.toNatClampNeg 0 → ∃ a10, S9.FR 531 x0 = some a10 ∧ isA S9 a10 22 ∧ vp_in x1 (S9.N a10) ∧ ∀ S13, S13 = S9.setAJ a10 x1.toNatClampNeg 0 → ∃ a14, S13.FR 532 x0 = some a14 ∧ isA S13 a14 22 ∧ vp_in x1 (S13.N a14) ∧ ∀ S17, S17 = S13.setAJ a14 x1.toNatClampNeg 1 → ∃ a18, S17.FR 533 x0 = some a18 ∧ ∃ a19, S17.FR 525 x0 = some a19 ∧ isA S17 a19 21 ∧ vp_in x1 (S17.N a19) ∧ ∃ a22, S17.FR 512 x0 = some a22 ∧ ∃ a23, S17.FR 522 x0 = some a23 ∧ isA S17 a23 21 ∧ vp_in x1 (S17.N a23) ∧ isA S17 a22 22 ∧ vp_in (S17.AI a23 x1.toNatClampNeg) (S17.N a22) ∧ ∃ a28, S17.FR 513 x0 = some a28 ∧ ∃ a29, S17.FR 522 x0 = some a29 ∧ isA S17 a29 21 ∧ vp_in x1 (S17.N a29) ∧ isA S17 a28 22 ∧ vp_in (S17.AI a29 x1.toNatClampNeg) (S17.N a28) ∧ wX8_floor S17 ((S17.AI a19 x1.toNatClampNeg).toInt64) (S17.AJ a22 ((S17.AI a23 x1.toNatClampNeg).toNatClampNeg)) (S17.AJ a28 ((S17.AI a29 x1.toNatClampNeg).toNatClampNeg)) (fun S34 r35 => isA S34 a18 22 ∧ vp_in x1 (S34.N a18) ∧ ∀ S38, S38 = S34.setAJ a18 x1.toNatClampNeg r35 → ∃ n, it3 (wX8_repair_b100 x0 x1 Φ) n S38 0 0)) ∧ (¬ (r2 = 0) → Φ S1 0)))
set_option maxHeartbeats 4000000 in
set_option maxRecDepth 100000 in
theorem bX8_repair_b28 {p : Program} {l : Launch} {e : Env} {s : State} {m : MethodId} {args : Array Value} {below : List Frame} {meth : Method} {c : Code} {G : Gw} {x0 : Nat} {x1 : Int32} {Φ : Hp → Int32 → Prop} (C0 : Mx p s m c cX8_repair 4 args yX8_repair.cls G) (Y : My meth (some .int))  : ∀ (S : Hp) (z0 : Nat) (z1 : Int32) (H : Heap) (locs : List Loc) (ls : Array Slot), wX8_repair_b28 x0 x1 Φ S z0 z1 → Ok G S H → va_S (Ab G.b) s.heap H locs → lv_has ls 4 [(0, .ref x0), (1, .int x1)] → W p l e rm_X8_repair s m args below meth c H locs 0 0 (MQ below (gQ G (PI Φ)) args s rm_X8_repair.cells rm_X8_repair.slots (Ab G.b)) (F0 m 28 ls [.int z1, .ref z0]) := by
  intro S z0 z1 H locs ls h hO hS hl
  unfold wX8_repair_b28 at h
  refine lv_iconst (v := 2) C0.1 C0.2.1 dX8_repair_28 (by decide) ?_
  obtain ⟨i3, h⟩ := h
  refine c_V C0 hO hS (mX8_isThrown h) i3 (by decide) rfl rfl tb_1451 tb_1453 tb_37 tb_81 tb_1454 hd_X8_isThrown rfl ⟨⟨by decide, by decide⟩, by decide, by decide⟩ hl.1 rfl (Nat.le_of_ble_eq_true rfl) dX8_repair_29 (kI (fun r2 S1 H locs h hO hS => ?_))
  refine lv_if_eq (tgt := 37) C0.1 C0.2.1 dX8_repair_32 (by decide) (fun c4 => ?_) (fun c4 => ?_)
  · have h := h.1 c4
    refine lv_aload_n C0.1 C0.2.1 dX8_repair_37 rfl (lv_at hl 0 rfl) ?_
    obtain ⟨i5, h⟩ := h
    obtain ⟨a6, ea6, h⟩ := h
    refine g8_16 C0 hO i5 ea6 tb_1344 dX8_repair_38 ?_
    refine lv_iload_n C0.1 C0.2.1 dX8_repair_41 rfl (lv_at hl 1 rfl) ?_
    refine lv_iconst (v := 0) C0.1 C0.2.1 dX8_repair_42 (by decide) ?_
    obtain ⟨i7, h⟩ := h
    obtain ⟨e8, h⟩ := h
    refine r_zast C0 hO hS i7 e8 ⟨rfl, rfl⟩ dX8_repair_43 (fun H locs hO hS => ?_)
    have h := h _ rfl
    refine lv_aload_n C0.1 C0.2.1 dX8_repair_44 rfl (lv_at hl 0 rfl) ?_
    obtain ⟨a10, ea10, h⟩ := h
    refine g8_19 C0 hO (sA_AI i5) ea10 tb_1347 dX8_repair_45 ?_
    refine lv_iload_n C0.1 C0.2.1 dX8_repair_48 rfl (lv_at hl 1 rfl) ?_
    refine lv_lconst (v := 0) C0.1 C0.2.1 dX8_repair_49 (by decide) ?_
    obtain ⟨i11, h⟩ := h
    obtain ⟨e12, h⟩ := h
    refine r_last C0 hO hS i11 e12 dX8_repair_50 (fun H locs hO hS => ?_)
    have h := h _ rfl
    refine lv_aload_n C0.1 C0.2.1 dX8_repair_51 rfl (lv_at hl 0 rfl) ?_
    obtain ⟨a14, ea14, h⟩ := h
    refine g8_20 C0 hO (sA_AJ (sA_AI i5)) ea14 tb_1348 dX8_repair_52 ?_
    refine lv_iload_n C0.1 C0.2.1 dX8_repair_55 rfl (lv_at hl 1 rfl) ?_
    refine lv_lconst (v := 1) C0.1 C0.2.1 dX8_repair_56 (by decide) ?_
    obtain ⟨i15, h⟩ := h
    obtain ⟨e16, h⟩ := h
    refine r_last C0 hO hS i15 e16 dX8_repair_57 (fun H locs hO hS => ?_)
    have h := h _ rfl
    refine lv_aload_n C0.1 C0.2.1 dX8_repair_58 rfl (lv_at hl 0 rfl) ?_
    obtain ⟨a18, ea18, h⟩ := h
    refine g8_21 C0 hO (sA_AJ (sA_AJ (sA_AI i5))) ea18 tb_1349 dX8_repair_59 ?_
    refine lv_iload_n C0.1 C0.2.1 dX8_repair_62 rfl (lv_at hl 1 rfl) ?_
    refine lv_aload_n C0.1 C0.2.1 dX8_repair_63 rfl (lv_at hl 0 rfl) ?_
    obtain ⟨a19, ea19, h⟩ := h
    refine g8_13 C0 hO (sA_AJ (sA_AJ (sA_AI i5))) ea19 tb_1341 dX8_repair_64 ?_
    refine lv_iload_n C0.1 C0.2.1 dX8_repair_67 rfl (lv_at hl 1 rfl) ?_
    obtain ⟨i20, h⟩ := h
    obtain ⟨e21, h⟩ := h
    refine r_iald C0 hO i20 e21 dX8_repair_68 ?_
    refine lv_i2l C0.1 C0.2.1 dX8_repair_69 rfl ?_
    refine lv_aload_n C0.1 C0.2.1 dX8_repair_70 rfl (lv_at hl 0 rfl) ?_
    obtain ⟨a22, ea22, h⟩ := h
    refine g8_0 C0 hO (sA_AJ (sA_AJ (sA_AI i5))) ea22 tb_1328 dX8_repair_71 ?_
    refine lv_aload_n C0.1 C0.2.1 dX8_repair_74 rfl (lv_at hl 0 rfl) ?_
    obtain ⟨a23, ea23, h⟩ := h
    refine g8_10 C0 hO (sA_AJ (sA_AJ (sA_AI i5))) ea23 tb_1338 dX8_repair_75 ?_
    refine lv_iload_n C0.1 C0.2.1 dX8_repair_78 rfl (lv_at hl 1 rfl) ?_
    obtain ⟨i24, h⟩ := h
    obtain ⟨e25, h⟩ := h
    refine r_iald C0 hO i24 e25 dX8_repair_79 ?_
    obtain ⟨i26, h⟩ := h
    obtain ⟨e27, h⟩ := h
    refine r_lald C0 hO i26 e27 dX8_repair_80 ?_
    refine lv_aload_n C0.1 C0.2.1 dX8_repair_81 rfl (lv_at hl 0 rfl) ?_
    obtain ⟨a28, ea28, h⟩ := h
    refine g8_1 C0 hO (sA_AJ (sA_AJ (sA_AI i5))) ea28 tb_1329 dX8_repair_82 ?_
    refine lv_aload_n C0.1 C0.2.1 dX8_repair_85 rfl (lv_at hl 0 rfl) ?_
    obtain ⟨a29, ea29, h⟩ := h
    refine g8_10 C0 hO (sA_AJ (sA_AJ (sA_AI i5))) ea29 tb_1338 dX8_repair_86 ?_
    refine lv_iload_n C0.1 C0.2.1 dX8_repair_89 rfl (lv_at hl 1 rfl) ?_
    obtain ⟨i30, h⟩ := h
    obtain ⟨e31, h⟩ := h
    refine r_iald C0 hO i30 e31 dX8_repair_90 ?_
    obtain ⟨i32, h⟩ := h
    obtain ⟨e33, h⟩ := h
    refine r_lald C0 hO i32 e33 dX8_repair_91 ?_
    refine c_S C0 hO hS (mX8_floor h) tb_1494 tb_1495 tb_81 tb_1496 hd_X8_floor rfl ⟨⟨by decide, by decide⟩, by decide, by decide⟩ hl.1 rfl (Nat.le_of_ble_eq_true rfl) dX8_repair_92 (kJ (fun r35 S34 H locs h hO hS => ?_))
    obtain ⟨i36, h⟩ := h
    obtain ⟨e37, h⟩ := h
    refine r_last C0 hO hS i36 e37 dX8_repair_95 (fun H locs hO hS => ?_)
    have h := h _ rfl
    refine lv_iconst (v := 0) C0.1 C0.2.1 dX8_repair_96 (by decide) ?_
    refine lv_istore_n C0.1 C0.2.1 dX8_repair_97 rfl hl (by decide) rfl (fun ls hl => ?_)
    refine lv_iconst (v := 0) C0.1 C0.2.1 dX8_repair_98 (by decide) ?_
    refine lv_istore_n C0.1 C0.2.1 dX8_repair_99 rfl hl (by decide) rfl (fun ls hl => ?_)
    obtain ⟨n9, h⟩ := h
    exact lX8_repair_b100 C0 Y n9 _ _ _ _ _ _ h hO hS (lv_sub hl [2, 3, 1, 0] rfl)
  · have h := h.2 c4
    refine lv_iconst (v := 0) C0.1 C0.2.1 dX8_repair_35 (by decide) ?_
    exact e_I C0 Y hO hS h (Nat.le_refl _) (Nat.le_refl _) dX8_repair_36
def wX8_repair_b0 (x0 : Nat) (x1 : Int32) (Φ : Hp → Int32 → Prop) (S : Hp) : Prop := isA S x0 8 ∧ wX8_isNoLink S x0 x1 (fun S1 r2 => isA S1 x0 8 ∧ wX8_isThrown S1 x0 r2 1 (fun S4 r5 => ((¬ r5 = 0 → Φ S4 0) ∧ (r5 = 0 → isA S4 x0 8 ∧ ∃ a9, S4.FR 528 x0 = some a9 ∧ isA S4 a9 23 ∧ vp_in x1 (S4.N a9) ∧ ((¬ (S4.AI a9 x1.toNatClampNeg) = 0 → wX8_repair_b28 x0 x1 Φ S4 x0 0) ∧ ((S4.AI a9 x1.toNatClampNeg) = 0 → wX8_repair_b28 x0 x1 Φ S4 x0 1))))))
set_option maxHeartbeats 4000000 in
set_option maxRecDepth 100000 in
theorem bX8_repair_b0 {p : Program} {l : Launch} {e : Env} {s : State} {m : MethodId} {args : Array Value} {below : List Frame} {meth : Method} {c : Code} {G : Gw} {x0 : Nat} {x1 : Int32} {Φ : Hp → Int32 → Prop} (C0 : Mx p s m c cX8_repair 4 args yX8_repair.cls G) (Y : My meth (some .int))  : ∀ (S : Hp) (H : Heap) (locs : List Loc) (ls : Array Slot), wX8_repair_b0 x0 x1 Φ S → Ok G S H → va_S (Ab G.b) s.heap H locs → lv_has ls 4 [(0, .ref x0), (1, .int x1)] → W p l e rm_X8_repair s m args below meth c H locs 0 0 (MQ below (gQ G (PI Φ)) args s rm_X8_repair.cells rm_X8_repair.slots (Ab G.b)) (F0 m 0 ls []) := by
  intro S H locs ls h hO hS hl
  unfold wX8_repair_b0 at h
  refine lv_aload_n C0.1 C0.2.1 dX8_repair_0 rfl (lv_at hl 0 rfl) ?_
  refine lv_aload_n C0.1 C0.2.1 dX8_repair_1 rfl (lv_at hl 0 rfl) ?_
  refine lv_iload_n C0.1 C0.2.1 dX8_repair_2 rfl (lv_at hl 1 rfl) ?_
  obtain ⟨i3, h⟩ := h
  refine c_V C0 hO hS (mX8_isNoLink h) i3 (by decide) rfl rfl tb_1506 tb_1508 tb_45 tb_81 tb_1509 hd_X8_isNoLink rfl ⟨⟨by decide, by decide⟩, by decide, by decide⟩ hl.1 rfl (Nat.le_of_ble_eq_true rfl) dX8_repair_3 (kI (fun r2 S1 H locs h hO hS => ?_))
  refine lv_iconst (v := 1) C0.1 C0.2.1 dX8_repair_6 (by decide) ?_
  obtain ⟨i6, h⟩ := h
  refine c_V C0 hO hS (mX8_isThrown h) i6 (by decide) rfl rfl tb_1451 tb_1453 tb_37 tb_81 tb_1454 hd_X8_isThrown rfl ⟨⟨by decide, by decide⟩, by decide, by decide⟩ hl.1 rfl (Nat.le_of_ble_eq_true rfl) dX8_repair_7 (kI (fun r5 S4 H locs h hO hS => ?_))
  refine lv_if_ne (tgt := 35) C0.1 C0.2.1 dX8_repair_10 (by decide) (fun c7 => ?_) (fun c7 => ?_)
  · have h := h.1 c7
    refine lv_iconst (v := 0) C0.1 C0.2.1 dX8_repair_35 (by decide) ?_
    exact e_I C0 Y hO hS h (Nat.le_refl _) (Nat.le_refl _) dX8_repair_36
  · have h := h.2 c7
    refine lv_aload_n C0.1 C0.2.1 dX8_repair_13 rfl (lv_at hl 0 rfl) ?_
    refine lv_aload_n C0.1 C0.2.1 dX8_repair_14 rfl (lv_at hl 0 rfl) ?_
    obtain ⟨i8, h⟩ := h
    obtain ⟨a9, ea9, h⟩ := h
    refine g8_16 C0 hO i8 ea9 tb_1344 dX8_repair_15 ?_
    refine lv_iload_n C0.1 C0.2.1 dX8_repair_18 rfl (lv_at hl 1 rfl) ?_
    obtain ⟨i10, h⟩ := h
    obtain ⟨e11, h⟩ := h
    refine r_zald C0 hO i10 e11 dX8_repair_19 ?_
    refine lv_if_ne (tgt := 27) C0.1 C0.2.1 dX8_repair_20 (by decide) (fun c12 => ?_) (fun c12 => ?_)
    · have h := h.1 c12
      refine lv_iconst (v := 0) C0.1 C0.2.1 dX8_repair_27 (by decide) ?_
      exact bX8_repair_b28 C0 Y _ _ _ _ _ _ h hO hS (lv_sub hl [0, 1] rfl)
    · have h := h.2 c12
      refine lv_iconst (v := 1) C0.1 C0.2.1 dX8_repair_23 (by decide) ?_
      refine lv_goto (tgt := 28) C0.1 C0.2.1 dX8_repair_24 (by decide) ?_
      exact bX8_repair_b28 C0 Y _ _ _ _ _ _ h hO hS (lv_sub hl [0, 1] rfl)
def wX8_repair (S : Hp) (x0 : Nat) (x1 : Int32) (Φ : Hp → Int32 → Prop) : Prop := wX8_repair_b0 x0 x1 Φ S
set_option maxRecDepth 100000 in
theorem mX8_repair {l : Launch} {G : Gw} {S : Hp} {x0 : Nat} {x1 : Int32} {Φ : Hp → Int32 → Prop} (h : wX8_repair S x0 x1 Φ) : gM l yX8_repair cX8_repair 4 (some .int) rm_X8_repair [.ref x0, .int x1] G S (PI Φ) := by
  unfold gM
  refine Met.ofW (cc := cX8_repair) (maxL := 4) (ret := (some .int)) (by decide) rfl ?_
  intro p e s m args below meth c s₁ B hml hv
  obtain ⟨rfl, hw⟩ := hv
  obtain ⟨C0, Y, hO⟩ := mx_of B hml hw
  have hS : va_S (Ab G.b) s.heap s.heap [] := va_S.rf
  have hl := lv_entry ([.ref x0, .int x1]) (n := 4) (Nat.le_of_ble_eq_true rfl)
  rw [lg_entry_eq]
  generalize (lg_sl ([.ref x0, .int x1]) ++ List.replicate (4 - (lg_sl ([.ref x0, .int x1])).length) Slot.unset).toArray = ls at hl ⊢
  have hl : lv_has ls 4 [(0, .ref x0), (1, .int x1)] := hl
  exact bX8_repair_b0 C0 Y S _ _ _ h hO hS hl

def rm_X8_slackAt (d : Nat) : Room := { frames := 4 + d, cells := 0, slots := 0, locals := 102 + d * 30 }
def wX8_slackAt_b207 (rec : Hp → Nat → Int32 → (Hp → Prop) → Prop) (x0 : Nat) (x1 : Int32) (Φ : Hp → Prop) (S : Hp) (v2 : Int32) : Prop := isA S x0 8 ∧ ∃ a2, S.FR 530 x0 = some a2 ∧ isA S a2 21 ∧ vp_in v2 (S.N a2) ∧ wX8_sum S x0 (S.FJ 547 x0) (S.FJ 548 x0) ((S.AI a2 v2.toNatClampNeg).toInt64) 1 (fun S5 => Φ S5)
set_option maxHeartbeats 4000000 in
set_option maxRecDepth 100000 in
theorem bX8_slackAt_b207 {p : Program} {l : Launch} {e : Env} {s : State} {m : MethodId} {args : Array Value} {below : List Frame} {meth : Method} {c : Code} {G : Gw} {rec : Hp → Nat → Int32 → (Hp → Prop) → Prop} {x0 : Nat} {x1 : Int32} {Φ : Hp → Prop} (C0 : Mx p s m c cX8_slackAt 11 args yX8_slackAt.cls G) (Y : My meth none) {d9 : Nat} (ihr : ∀ {S : Hp} {x0 : Nat} {x1 : Int32} {Φ : Hp → Prop}, rec S x0 x1 Φ → gM l yX8_slackAt cX8_slackAt 11 none (rm_X8_slackAt d9) [.ref x0, .int x1] G S (PV Φ))  : ∀ (S : Hp) (v2 : Int32) (H : Heap) (locs : List Loc) (ls : Array Slot), wX8_slackAt_b207 rec x0 x1 Φ S v2 → Ok G S H → va_S (Ab G.b) s.heap H locs → lv_has ls 11 [(0, .ref x0), (1, .int x1), (2, .int v2)] → W p l e (rm_X8_slackAt (d9 + 1)) s m args below meth c H locs 0 0 (MQ below (gQ G (PV Φ)) args s (rm_X8_slackAt (d9 + 1)).cells (rm_X8_slackAt (d9 + 1)).slots (Ab G.b)) (F0 m 207 ls []) := by
  intro S v2 H locs ls h hO hS hl
  unfold wX8_slackAt_b207 at h
  refine lv_aload_n C0.1 C0.2.1 dX8_slackAt_207 rfl (lv_at hl 0 rfl) ?_
  refine lv_aload_n C0.1 C0.2.1 dX8_slackAt_208 rfl (lv_at hl 0 rfl) ?_
  obtain ⟨i1, h⟩ := h
  refine g8_35 C0 hO i1 tb_1363 dX8_slackAt_209 ?_
  refine lv_aload_n C0.1 C0.2.1 dX8_slackAt_212 rfl (lv_at hl 0 rfl) ?_
  refine g8_36 C0 hO i1 tb_1364 dX8_slackAt_213 ?_
  refine lv_aload_n C0.1 C0.2.1 dX8_slackAt_216 rfl (lv_at hl 0 rfl) ?_
  obtain ⟨a2, ea2, h⟩ := h
  refine g8_18 C0 hO i1 ea2 tb_1346 dX8_slackAt_217 ?_
  refine lv_iload_n C0.1 C0.2.1 dX8_slackAt_220 rfl (lv_at hl 2 rfl) ?_
  obtain ⟨i3, h⟩ := h
  obtain ⟨e4, h⟩ := h
  refine r_iald C0 hO i3 e4 dX8_slackAt_221 ?_
  refine lv_i2l C0.1 C0.2.1 dX8_slackAt_222 rfl ?_
  refine lv_lconst (v := 1) C0.1 C0.2.1 dX8_slackAt_223 (by decide) ?_
  refine c_V C0 hO hS (mX8_sum h) i1 (by decide) rfl rfl tb_1548 tb_1550 tb_51 tb_81 tb_1551 hd_X8_sum rfl ⟨⟨by simp only [rm_X8_slackAt, rm_X8_sum]; omega, by simp only [rm_X8_slackAt, rm_X8_sum]; omega⟩, Nat.le_refl _, Nat.le_refl _⟩ hl.1 rfl (Nat.le_of_ble_eq_true rfl) dX8_slackAt_224 (kV (fun S5 H locs h hO hS => ?_))
  exact e_V C0 Y hO hS h (Nat.le_refl _) (Nat.le_refl _) dX8_slackAt_227
def wX8_slackAt_b0 (rec : Hp → Nat → Int32 → (Hp → Prop) → Prop) (x0 : Nat) (x1 : Int32) (Φ : Hp → Prop) (S : Hp) : Prop := isA S x0 8 ∧ ∃ a2, S.FR 519 x0 = some a2 ∧ isA S a2 21 ∧ vp_in x1 (S.N a2) ∧ ((¬ (S.AI a2 x1.toNatClampNeg) = (-1) → ∃ a6, S.FR 525 x0 = some a6 ∧ isA S a6 21 ∧ vp_in (S.AI a2 x1.toNatClampNeg) (S.N a6) ∧ ∃ a9, S.FR 526 x0 = some a9 ∧ isA S a9 21 ∧ vp_in (S.AI a2 x1.toNatClampNeg) (S.N a9) ∧ ∃ a12, S.FR 522 x0 = some a12 ∧ isA S a12 21 ∧ vp_in (S.AI a2 x1.toNatClampNeg) (S.N a12) ∧ rec S x0 (S.AI a12 ((S.AI a2 x1.toNatClampNeg).toNatClampNeg)) (fun S15 => isA S15 x0 8 ∧ ∃ a17, S15.FR 521 x0 = some a17 ∧ isA S15 a17 20 ∧ vp_in (S.AI a2 x1.toNatClampNeg) (S15.N a17) ∧ (((S15.AI a17 ((S.AI a2 x1.toNatClampNeg).toNatClampNeg)) = 103 → wX8_product S15 x0 (S15.FJ 547 x0) (S15.FJ 548 x0) ((S.AI a6 ((S.AI a2 x1.toNatClampNeg).toNatClampNeg)).toInt64) ((S.AI a9 ((S.AI a2 x1.toNatClampNeg).toNatClampNeg)).toInt64) (fun S21 => wX8_slackAt_b207 rec x0 x1 Φ S21 (S.AI a2 x1.toNatClampNeg))) ∧ (¬ ((S15.AI a17 ((S.AI a2 x1.toNatClampNeg).toNatClampNeg)) = 103) → (((S15.AI a17 ((S.AI a2 x1.toNatClampNeg).toNatClampNeg)) = 105 → wX8_product S15 x0 (S15.FJ 547 x0) (S15.FJ 548 x0) ((S.AI a6 ((S.AI a2 x1.toNatClampNeg).toNatClampNeg)).toInt64) ((S.AI a9 ((S.AI a2 x1.toNatClampNeg).toNatClampNeg)).toInt64) (fun S23 => wX8_slackAt_b207 rec x0 x1 Φ S23 (S.AI a2 x1.toNatClampNeg))) ∧ (¬ ((S15.AI a17 ((S.AI a2 x1.toNatClampNeg).toNatClampNeg)) = 105) → (((S15.AI a17 ((S.AI a2 x1.toNatClampNeg).toNatClampNeg)) = 112 → wX8_product S15 x0 (S15.FJ 547 x0) (S15.FJ 548 x0) ((S.AI a6 ((S.AI a2 x1.toNatClampNeg).toNatClampNeg)).toInt64) (((S.AI a6 ((S.AI a2 x1.toNatClampNeg).toNatClampNeg)).toInt64) + ((S.AI a9 ((S.AI a2 x1.toNatClampNeg).toNatClampNeg)).toInt64)) (fun S25 => isA S25 x0 8 ∧ ∃ a27, S25.FR 523 x0 = some a27 ∧ isA S25 a27 21 ∧ vp_in (S.AI a2 x1.toNatClampNeg) (S25.N a27) ∧ rec S25 x0 (S25.AI a27 ((S.AI a2 x1.toNatClampNeg).toNatClampNeg)) (fun S30 => isA S30 x0 8 ∧ wX8_product S30 x0 (S30.FJ 547 x0) (S30.FJ 548 x0) ((S.AI a9 ((S.AI a2 x1.toNatClampNeg).toNatClampNeg)).toInt64) (((S.AI a6 ((S.AI a2 x1.toNatClampNeg).toNatClampNeg)).toInt64) + ((S.AI a9 ((S.AI a2 x1.toNatClampNeg).toNatClampNeg)).toInt64)) (fun S32 => isA S32 x0 8 ∧ wX8_sum S32 x0 (S25.FJ 547 x0) (S25.FJ 548 x0) (S32.FJ 547 x0) (S32.FJ 548 x0) (fun S34 => wX8_slackAt_b207 rec x0 x1 Φ S34 (S.AI a2 x1.toNatClampNeg)))))) ∧ (¬ ((S15.AI a17 ((S.AI a2 x1.toNatClampNeg).toNatClampNeg)) = 112) → (((S15.AI a17 ((S.AI a2 x1.toNatClampNeg).toNatClampNeg)) = 118 → wX8_product S15 x0 (S15.FJ 547 x0) (S15.FJ 548 x0) 1 ((S.AI a6 ((S.AI a2 x1.toNatClampNeg).toNatClampNeg)).toInt64) (fun S36 => wX8_slackAt_b207 rec x0 x1 Φ S36 (S.AI a2 x1.toNatClampNeg))) ∧ (¬ ((S15.AI a17 ((S.AI a2 x1.toNatClampNeg).toNatClampNeg)) = 118) → wX8_slackAt_b207 rec x0 x1 Φ S15 (S.AI a2 x1.toNatClampNeg))))))))))) ∧ ((S.AI a2 x1.toNatClampNeg) = (-1) → wX8_result S x0 0 1 (fun S37 => Φ S37)))
set_option maxHeartbeats 4000000 in
set_option maxRecDepth 100000 in
theorem bX8_slackAt_b0 {p : Program} {l : Launch} {e : Env} {s : State} {m : MethodId} {args : Array Value} {below : List Frame} {meth : Method} {c : Code} {G : Gw} {rec : Hp → Nat → Int32 → (Hp → Prop) → Prop} {x0 : Nat} {x1 : Int32} {Φ : Hp → Prop} (C0 : Mx p s m c cX8_slackAt 11 args yX8_slackAt.cls G) (Y : My meth none) {d9 : Nat} (ihr : ∀ {S : Hp} {x0 : Nat} {x1 : Int32} {Φ : Hp → Prop}, rec S x0 x1 Φ → gM l yX8_slackAt cX8_slackAt 11 none (rm_X8_slackAt d9) [.ref x0, .int x1] G S (PV Φ))  : ∀ (S : Hp) (H : Heap) (locs : List Loc) (ls : Array Slot), wX8_slackAt_b0 rec x0 x1 Φ S → Ok G S H → va_S (Ab G.b) s.heap H locs → lv_has ls 11 [(0, .ref x0), (1, .int x1)] → W p l e (rm_X8_slackAt (d9 + 1)) s m args below meth c H locs 0 0 (MQ below (gQ G (PV Φ)) args s (rm_X8_slackAt (d9 + 1)).cells (rm_X8_slackAt (d9 + 1)).slots (Ab G.b)) (F0 m 0 ls []) := by
  intro S H locs ls h hO hS hl
  unfold wX8_slackAt_b0 at h
  refine lv_aload_n C0.1 C0.2.1 dX8_slackAt_0 rfl (lv_at hl 0 rfl) ?_
  obtain ⟨i1, h⟩ := h
  obtain ⟨a2, ea2, h⟩ := h
  refine g8_7 C0 hO i1 ea2 tb_1335 dX8_slackAt_1 ?_
  refine lv_iload_n C0.1 C0.2.1 dX8_slackAt_4 rfl (lv_at hl 1 rfl) ?_
  obtain ⟨i3, h⟩ := h
  obtain ⟨e4, h⟩ := h
  refine r_iald C0 hO i3 e4 dX8_slackAt_5 ?_
  refine lv_istore_n C0.1 C0.2.1 dX8_slackAt_6 rfl hl (by decide) rfl (fun ls hl => ?_)
  refine lv_iload_n C0.1 C0.2.1 dX8_slackAt_7 rfl (lv_at hl 0 rfl) ?_
  refine lv_iconst (v := (-1)) C0.1 C0.2.1 dX8_slackAt_8 (by decide) ?_
  refine lv_icmp_ne (tgt := 19) C0.1 C0.2.1 dX8_slackAt_9 (by decide) (fun c5 => ?_) (fun c5 => ?_)
  · have h := h.1 c5
    refine lv_aload_n C0.1 C0.2.1 dX8_slackAt_19 rfl (lv_at hl 1 rfl) ?_
    obtain ⟨a6, ea6, h⟩ := h
    refine g8_13 C0 hO i1 ea6 tb_1341 dX8_slackAt_20 ?_
    refine lv_iload_n C0.1 C0.2.1 dX8_slackAt_23 rfl (lv_at hl 0 rfl) ?_
    obtain ⟨i7, h⟩ := h
    obtain ⟨e8, h⟩ := h
    refine r_iald C0 hO i7 e8 dX8_slackAt_24 ?_
    refine lv_i2l C0.1 C0.2.1 dX8_slackAt_25 rfl ?_
    refine lv_lstore_n C0.1 C0.2.1 dX8_slackAt_26 rfl hl (by decide) rfl (fun ls hl => ?_)
    refine lv_aload_n C0.1 C0.2.1 dX8_slackAt_27 rfl (lv_at hl 2 rfl) ?_
    obtain ⟨a9, ea9, h⟩ := h
    refine g8_14 C0 hO i1 ea9 tb_1342 dX8_slackAt_28 ?_
    refine lv_iload_n C0.1 C0.2.1 dX8_slackAt_31 rfl (lv_at hl 1 rfl) ?_
    obtain ⟨i10, h⟩ := h
    obtain ⟨e11, h⟩ := h
    refine r_iald C0 hO i10 e11 dX8_slackAt_32 ?_
    refine lv_i2l C0.1 C0.2.1 dX8_slackAt_33 rfl ?_
    refine lv_lstore C0.1 C0.2.1 dX8_slackAt_34 hl (by decide) rfl (fun ls hl => ?_)
    refine lv_aload_n C0.1 C0.2.1 dX8_slackAt_36 rfl (lv_at hl 3 rfl) ?_
    refine lv_aload_n C0.1 C0.2.1 dX8_slackAt_37 rfl (lv_at hl 3 rfl) ?_
    obtain ⟨a12, ea12, h⟩ := h
    refine g8_10 C0 hO i1 ea12 tb_1338 dX8_slackAt_38 ?_
    refine lv_iload_n C0.1 C0.2.1 dX8_slackAt_41 rfl (lv_at hl 2 rfl) ?_
    obtain ⟨i13, h⟩ := h
    obtain ⟨e14, h⟩ := h
    refine r_iald C0 hO i13 e14 dX8_slackAt_42 ?_
    refine c_V C0 hO hS (ihr h) i1 (by decide) rfl rfl tb_1623 tb_1625 tb_58 tb_81 tb_1626 hd_X8_slackAt rfl ⟨⟨by simp only [rm_X8_slackAt]; omega, by simp only [rm_X8_slackAt]; omega⟩, Nat.le_refl _, Nat.le_refl _⟩ hl.1 rfl (Nat.le_of_ble_eq_true rfl) dX8_slackAt_43 (kV (fun S15 H locs h hO hS => ?_))
    refine lv_aload_n C0.1 C0.2.1 dX8_slackAt_46 rfl (lv_at hl 3 rfl) ?_
    obtain ⟨i16, h⟩ := h
    obtain ⟨a17, ea17, h⟩ := h
    refine g8_9 C0 hO i16 ea17 tb_1337 dX8_slackAt_47 ?_
    refine lv_iload_n C0.1 C0.2.1 dX8_slackAt_50 rfl (lv_at hl 2 rfl) ?_
    obtain ⟨i18, h⟩ := h
    obtain ⟨e19, h⟩ := h
    refine r_cald C0 hO i18 e19 dX8_slackAt_51 ?_
    refine lv_topi (fun y9 e9 => ?_)
    by_cases c20 : y9 = 103
    · have h := h.1 (e9.symm.trans c20)
      refine lv_lookup (tgt := 96) C0.1 C0.2.1 dX8_slackAt_52 (by decide) (off := 44) (by rw [c20]; rfl) (by decide) ?_
      refine lv_aload_n C0.1 C0.2.1 dX8_slackAt_96 rfl (lv_at hl 3 rfl) ?_
      refine lv_aload_n C0.1 C0.2.1 dX8_slackAt_97 rfl (lv_at hl 3 rfl) ?_
      refine g8_35 C0 hO i16 tb_1363 dX8_slackAt_98 ?_
      refine lv_aload_n C0.1 C0.2.1 dX8_slackAt_101 rfl (lv_at hl 3 rfl) ?_
      refine g8_36 C0 hO i16 tb_1364 dX8_slackAt_102 ?_
      refine lv_lload_n C0.1 C0.2.1 dX8_slackAt_105 rfl (lv_at hl 1 rfl) ?_
      refine lv_lload C0.1 C0.2.1 dX8_slackAt_106 (lv_at hl 0 rfl) ?_
      refine c_V C0 hO hS (mX8_product h) i16 (by decide) rfl rfl tb_1544 tb_1546 tb_50 tb_81 tb_1547 hd_X8_product rfl ⟨⟨by simp only [rm_X8_slackAt, rm_X8_product]; omega, by simp only [rm_X8_slackAt, rm_X8_product]; omega⟩, Nat.le_refl _, Nat.le_refl _⟩ hl.1 rfl (Nat.le_of_ble_eq_true rfl) dX8_slackAt_108 (kV (fun S21 H locs h hO hS => ?_))
      refine lv_goto (tgt := 207) C0.1 C0.2.1 dX8_slackAt_111 (by decide) ?_
      exact bX8_slackAt_b207 C0 Y ihr _ _ _ _ _ h hO hS (lv_sub hl [3, 4, 2] rfl)
    · have h := h.2 (fun q9 => c20 (e9.trans q9))
      by_cases c22 : y9 = 105
      · have h := h.1 (e9.symm.trans c22)
        refine lv_lookup (tgt := 96) C0.1 C0.2.1 dX8_slackAt_52 (by decide) (off := 44) (by rw [c22]; rfl) (by decide) ?_
        refine lv_aload_n C0.1 C0.2.1 dX8_slackAt_96 rfl (lv_at hl 3 rfl) ?_
        refine lv_aload_n C0.1 C0.2.1 dX8_slackAt_97 rfl (lv_at hl 3 rfl) ?_
        refine g8_35 C0 hO i16 tb_1363 dX8_slackAt_98 ?_
        refine lv_aload_n C0.1 C0.2.1 dX8_slackAt_101 rfl (lv_at hl 3 rfl) ?_
        refine g8_36 C0 hO i16 tb_1364 dX8_slackAt_102 ?_
        refine lv_lload_n C0.1 C0.2.1 dX8_slackAt_105 rfl (lv_at hl 1 rfl) ?_
        refine lv_lload C0.1 C0.2.1 dX8_slackAt_106 (lv_at hl 0 rfl) ?_
        refine c_V C0 hO hS (mX8_product h) i16 (by decide) rfl rfl tb_1544 tb_1546 tb_50 tb_81 tb_1547 hd_X8_product rfl ⟨⟨by simp only [rm_X8_slackAt, rm_X8_product]; omega, by simp only [rm_X8_slackAt, rm_X8_product]; omega⟩, Nat.le_refl _, Nat.le_refl _⟩ hl.1 rfl (Nat.le_of_ble_eq_true rfl) dX8_slackAt_108 (kV (fun S23 H locs h hO hS => ?_))
        refine lv_goto (tgt := 207) C0.1 C0.2.1 dX8_slackAt_111 (by decide) ?_
        exact bX8_slackAt_b207 C0 Y ihr _ _ _ _ _ h hO hS (lv_sub hl [3, 4, 2] rfl)
      · have h := h.2 (fun q9 => c22 (e9.trans q9))
        by_cases c24 : y9 = 112
        · have h := h.1 (e9.symm.trans c24)
          refine lv_lookup (tgt := 131) C0.1 C0.2.1 dX8_slackAt_52 (by decide) (off := 79) (by rw [c24]; rfl) (by decide) ?_
          refine lv_aload_n C0.1 C0.2.1 dX8_slackAt_131 rfl (lv_at hl 3 rfl) ?_
          refine lv_aload_n C0.1 C0.2.1 dX8_slackAt_132 rfl (lv_at hl 3 rfl) ?_
          refine g8_35 C0 hO i16 tb_1363 dX8_slackAt_133 ?_
          refine lv_aload_n C0.1 C0.2.1 dX8_slackAt_136 rfl (lv_at hl 3 rfl) ?_
          refine g8_36 C0 hO i16 tb_1364 dX8_slackAt_137 ?_
          refine lv_lload_n C0.1 C0.2.1 dX8_slackAt_140 rfl (lv_at hl 1 rfl) ?_
          refine lv_lload_n C0.1 C0.2.1 dX8_slackAt_141 rfl (lv_at hl 1 rfl) ?_
          refine lv_lload C0.1 C0.2.1 dX8_slackAt_142 (lv_at hl 0 rfl) ?_
          refine lv_ladd C0.1 C0.2.1 dX8_slackAt_144 ?_
          refine c_V C0 hO hS (mX8_product h) i16 (by decide) rfl rfl tb_1544 tb_1546 tb_50 tb_81 tb_1547 hd_X8_product rfl ⟨⟨by simp only [rm_X8_slackAt, rm_X8_product]; omega, by simp only [rm_X8_slackAt, rm_X8_product]; omega⟩, Nat.le_refl _, Nat.le_refl _⟩ hl.1 rfl (Nat.le_of_ble_eq_true rfl) dX8_slackAt_145 (kV (fun S25 H locs h hO hS => ?_))
          refine lv_aload_n C0.1 C0.2.1 dX8_slackAt_148 rfl (lv_at hl 3 rfl) ?_
          obtain ⟨i26, h⟩ := h
          refine g8_35 C0 hO i26 tb_1363 dX8_slackAt_149 ?_
          refine lv_lstore C0.1 C0.2.1 dX8_slackAt_152 hl (by decide) rfl (fun ls hl => ?_)
          refine lv_aload_n C0.1 C0.2.1 dX8_slackAt_154 rfl (lv_at hl 4 rfl) ?_
          refine g8_36 C0 hO i26 tb_1364 dX8_slackAt_155 ?_
          refine lv_lstore C0.1 C0.2.1 dX8_slackAt_158 hl (by decide) rfl (fun ls hl => ?_)
          refine lv_aload_n C0.1 C0.2.1 dX8_slackAt_160 rfl (lv_at hl 5 rfl) ?_
          refine lv_aload_n C0.1 C0.2.1 dX8_slackAt_161 rfl (lv_at hl 5 rfl) ?_
          obtain ⟨a27, ea27, h⟩ := h
          refine g8_11 C0 hO i26 ea27 tb_1339 dX8_slackAt_162 ?_
          refine lv_iload_n C0.1 C0.2.1 dX8_slackAt_165 rfl (lv_at hl 4 rfl) ?_
          obtain ⟨i28, h⟩ := h
          obtain ⟨e29, h⟩ := h
          refine r_iald C0 hO i28 e29 dX8_slackAt_166 ?_
          refine c_V C0 hO hS (ihr h) i26 (by decide) rfl rfl tb_1623 tb_1625 tb_58 tb_81 tb_1626 hd_X8_slackAt rfl ⟨⟨by simp only [rm_X8_slackAt]; omega, by simp only [rm_X8_slackAt]; omega⟩, Nat.le_refl _, Nat.le_refl _⟩ hl.1 rfl (Nat.le_of_ble_eq_true rfl) dX8_slackAt_167 (kV (fun S30 H locs h hO hS => ?_))
          refine lv_aload_n C0.1 C0.2.1 dX8_slackAt_170 rfl (lv_at hl 5 rfl) ?_
          refine lv_aload_n C0.1 C0.2.1 dX8_slackAt_171 rfl (lv_at hl 5 rfl) ?_
          obtain ⟨i31, h⟩ := h
          refine g8_35 C0 hO i31 tb_1363 dX8_slackAt_172 ?_
          refine lv_aload_n C0.1 C0.2.1 dX8_slackAt_175 rfl (lv_at hl 5 rfl) ?_
          refine g8_36 C0 hO i31 tb_1364 dX8_slackAt_176 ?_
          refine lv_lload C0.1 C0.2.1 dX8_slackAt_179 (lv_at hl 2 rfl) ?_
          refine lv_lload_n C0.1 C0.2.1 dX8_slackAt_181 rfl (lv_at hl 3 rfl) ?_
          refine lv_lload C0.1 C0.2.1 dX8_slackAt_182 (lv_at hl 2 rfl) ?_
          refine lv_ladd C0.1 C0.2.1 dX8_slackAt_184 ?_
          refine c_V C0 hO hS (mX8_product h) i31 (by decide) rfl rfl tb_1544 tb_1546 tb_50 tb_81 tb_1547 hd_X8_product rfl ⟨⟨by simp only [rm_X8_slackAt, rm_X8_product]; omega, by simp only [rm_X8_slackAt, rm_X8_product]; omega⟩, Nat.le_refl _, Nat.le_refl _⟩ hl.1 rfl (Nat.le_of_ble_eq_true rfl) dX8_slackAt_185 (kV (fun S32 H locs h hO hS => ?_))
          refine lv_aload_n C0.1 C0.2.1 dX8_slackAt_188 rfl (lv_at hl 5 rfl) ?_
          refine lv_lload C0.1 C0.2.1 dX8_slackAt_189 (lv_at hl 1 rfl) ?_
          refine lv_lload C0.1 C0.2.1 dX8_slackAt_191 (lv_at hl 0 rfl) ?_
          refine lv_aload_n C0.1 C0.2.1 dX8_slackAt_193 rfl (lv_at hl 5 rfl) ?_
          obtain ⟨i33, h⟩ := h
          refine g8_35 C0 hO i33 tb_1363 dX8_slackAt_194 ?_
          refine lv_aload_n C0.1 C0.2.1 dX8_slackAt_197 rfl (lv_at hl 5 rfl) ?_
          refine g8_36 C0 hO i33 tb_1364 dX8_slackAt_198 ?_
          refine c_V C0 hO hS (mX8_sum h) i33 (by decide) rfl rfl tb_1548 tb_1550 tb_51 tb_81 tb_1551 hd_X8_sum rfl ⟨⟨by simp only [rm_X8_slackAt, rm_X8_sum]; omega, by simp only [rm_X8_slackAt, rm_X8_sum]; omega⟩, Nat.le_refl _, Nat.le_refl _⟩ hl.1 rfl (Nat.le_of_ble_eq_true rfl) dX8_slackAt_201 (kV (fun S34 H locs h hO hS => ?_))
          refine lv_goto (tgt := 207) C0.1 C0.2.1 dX8_slackAt_204 (by decide) ?_
          exact bX8_slackAt_b207 C0 Y ihr _ _ _ _ _ h hO hS (lv_sub hl [5, 6, 4] rfl)
        · have h := h.2 (fun q9 => c24 (e9.trans q9))
          by_cases c35 : y9 = 118
          · have h := h.1 (e9.symm.trans c35)
            refine lv_lookup (tgt := 114) C0.1 C0.2.1 dX8_slackAt_52 (by decide) (off := 62) (by rw [c35]; rfl) (by decide) ?_
            refine lv_aload_n C0.1 C0.2.1 dX8_slackAt_114 rfl (lv_at hl 3 rfl) ?_
            refine lv_aload_n C0.1 C0.2.1 dX8_slackAt_115 rfl (lv_at hl 3 rfl) ?_
            refine g8_35 C0 hO i16 tb_1363 dX8_slackAt_116 ?_
            refine lv_aload_n C0.1 C0.2.1 dX8_slackAt_119 rfl (lv_at hl 3 rfl) ?_
            refine g8_36 C0 hO i16 tb_1364 dX8_slackAt_120 ?_
            refine lv_lconst (v := 1) C0.1 C0.2.1 dX8_slackAt_123 (by decide) ?_
            refine lv_lload_n C0.1 C0.2.1 dX8_slackAt_124 rfl (lv_at hl 1 rfl) ?_
            refine c_V C0 hO hS (mX8_product h) i16 (by decide) rfl rfl tb_1544 tb_1546 tb_50 tb_81 tb_1547 hd_X8_product rfl ⟨⟨by simp only [rm_X8_slackAt, rm_X8_product]; omega, by simp only [rm_X8_slackAt, rm_X8_product]; omega⟩, Nat.le_refl _, Nat.le_refl _⟩ hl.1 rfl (Nat.le_of_ble_eq_true rfl) dX8_slackAt_125 (kV (fun S36 H locs h hO hS => ?_))
            refine lv_goto (tgt := 207) C0.1 C0.2.1 dX8_slackAt_128 (by decide) ?_
            exact bX8_slackAt_b207 C0 Y ihr _ _ _ _ _ h hO hS (lv_sub hl [3, 4, 2] rfl)
          · have h := h.2 (fun q9 => c35 (e9.trans q9))
            refine lv_lookup (tgt := 207) C0.1 C0.2.1 dX8_slackAt_52 (by decide) (off := 155) (by rw [lv_osw c20 (by decide)]; rw [lv_osw c22 (by decide)]; rw [lv_osw c24 (by decide)]; rw [lv_osw c35 (by decide)]; rfl) (by decide) ?_
            exact bX8_slackAt_b207 C0 Y ihr _ _ _ _ _ h hO hS (lv_sub hl [3, 4, 2] rfl)
  · have h := h.2 c5
    refine lv_aload_n C0.1 C0.2.1 dX8_slackAt_12 rfl (lv_at hl 1 rfl) ?_
    refine lv_lconst (v := 0) C0.1 C0.2.1 dX8_slackAt_13 (by decide) ?_
    refine lv_lconst (v := 1) C0.1 C0.2.1 dX8_slackAt_14 (by decide) ?_
    refine c_V C0 hO hS (mX8_result h) i1 (by decide) rfl rfl tb_1532 tb_1534 tb_48 tb_81 tb_1535 hd_X8_result rfl ⟨⟨by simp only [rm_X8_slackAt, rm_X8_result]; omega, by simp only [rm_X8_slackAt, rm_X8_result]; omega⟩, Nat.le_refl _, Nat.le_refl _⟩ hl.1 rfl (Nat.le_of_ble_eq_true rfl) dX8_slackAt_15 (kV (fun S37 H locs h hO hS => ?_))
    exact e_V C0 Y hO hS h (Nat.le_refl _) (Nat.le_refl _) dX8_slackAt_18
def wX8_slackAt : Nat → Hp → Nat → Int32 → (Hp → Prop) → Prop
  | 0 => fun _ _ _ _ => False
  | d + 1 => fun S x0 x1 Φ => wX8_slackAt_b0 (wX8_slackAt d) x0 x1 Φ S
set_option maxRecDepth 100000 in
theorem mX8_slackAt {l : Launch} {G : Gw} : ∀ (d : Nat) {S : Hp} {x0 : Nat} {x1 : Int32} {Φ : Hp → Prop}, wX8_slackAt d S x0 x1 Φ → gM l yX8_slackAt cX8_slackAt 11 none (rm_X8_slackAt d) [.ref x0, .int x1] G S (PV Φ) := by
  intro d
  induction d with
  | zero => intro S x0 x1 Φ h; exact (h : False).elim
  | succ d9 ih =>
    intro S x0 x1 Φ h
    unfold gM
    refine Met.ofW (cc := cX8_slackAt) (maxL := 11) (ret := none) (by decide) rfl ?_
    intro p e s m args below meth c s₁ B hml hv
    obtain ⟨rfl, hw⟩ := hv
    obtain ⟨C0, Y, hO⟩ := mx_of B hml hw
    have hS : va_S (Ab G.b) s.heap s.heap [] := va_S.rf
    have hl := lv_entry ([.ref x0, .int x1]) (n := 11) (Nat.le_of_ble_eq_true rfl)
    rw [lg_entry_eq]
    generalize (lg_sl ([.ref x0, .int x1]) ++ List.replicate (11 - (lg_sl ([.ref x0, .int x1])).length) Slot.unset).toArray = ls at hl ⊢
    have hl : lv_has ls 11 [(0, .ref x0), (1, .int x1)] := hl
    exact bX8_slackAt_b0 C0 Y (fun h => ih h) S _ _ _ h hO hS hl

def rm_X8_slackOf : Room := { frames := 25, cells := 0, slots := 0, locals := 732 }
def wX8_slackOf_b0 (x0 : Nat) (x1 : Int32) (x2 : Int32) (Φ : Hp → Int64 → Prop) (S : Hp) : Prop := isA S x0 8 ∧ wX8_isNoShaft S x0 x1 (fun S1 r2 => isA S1 x0 8 ∧ wX8_isThrown S1 x0 r2 1 (fun S4 r5 => ((r5 = 0 → isA S4 x0 8 ∧ wX8_slackAt 20 S4 x0 x1 (fun S8 => ((x2 = 0 → isA S8 x0 8 ∧ Φ S8 (S8.FJ 548 x0)) ∧ (¬ (x2 = 0) → isA S8 x0 8 ∧ Φ S8 (S8.FJ 547 x0))))) ∧ (¬ (r5 = 0) → Φ S4 0))))
set_option maxHeartbeats 4000000 in
set_option maxRecDepth 100000 in
theorem bX8_slackOf_b0 {p : Program} {l : Launch} {e : Env} {s : State} {m : MethodId} {args : Array Value} {below : List Frame} {meth : Method} {c : Code} {G : Gw} {x0 : Nat} {x1 : Int32} {x2 : Int32} {Φ : Hp → Int64 → Prop} (C0 : Mx p s m c cX8_slackOf 3 args yX8_slackOf.cls G) (Y : My meth (some .long))  : ∀ (S : Hp) (H : Heap) (locs : List Loc) (ls : Array Slot), wX8_slackOf_b0 x0 x1 x2 Φ S → Ok G S H → va_S (Ab G.b) s.heap H locs → lv_has ls 3 [(0, .ref x0), (1, .int x1), (2, .int x2)] → W p l e rm_X8_slackOf s m args below meth c H locs 0 0 (MQ below (gQ G (PJ Φ)) args s rm_X8_slackOf.cells rm_X8_slackOf.slots (Ab G.b)) (F0 m 0 ls []) := by
  intro S H locs ls h hO hS hl
  unfold wX8_slackOf_b0 at h
  refine lv_aload_n C0.1 C0.2.1 dX8_slackOf_0 rfl (lv_at hl 0 rfl) ?_
  refine lv_aload_n C0.1 C0.2.1 dX8_slackOf_1 rfl (lv_at hl 0 rfl) ?_
  refine lv_iload_n C0.1 C0.2.1 dX8_slackOf_2 rfl (lv_at hl 1 rfl) ?_
  obtain ⟨i3, h⟩ := h
  refine c_V C0 hO hS (mX8_isNoShaft h) i3 (by decide) rfl rfl tb_1459 tb_1461 tb_38 tb_81 tb_1462 hd_X8_isNoShaft rfl ⟨⟨by decide, by decide⟩, by decide, by decide⟩ hl.1 rfl (Nat.le_of_ble_eq_true rfl) dX8_slackOf_3 (kI (fun r2 S1 H locs h hO hS => ?_))
  refine lv_iconst (v := 1) C0.1 C0.2.1 dX8_slackOf_6 (by decide) ?_
  obtain ⟨i6, h⟩ := h
  refine c_V C0 hO hS (mX8_isThrown h) i6 (by decide) rfl rfl tb_1451 tb_1453 tb_37 tb_81 tb_1454 hd_X8_isThrown rfl ⟨⟨by decide, by decide⟩, by decide, by decide⟩ hl.1 rfl (Nat.le_of_ble_eq_true rfl) dX8_slackOf_7 (kI (fun r5 S4 H locs h hO hS => ?_))
  refine lv_if_eq (tgt := 15) C0.1 C0.2.1 dX8_slackOf_10 (by decide) (fun c7 => ?_) (fun c7 => ?_)
  · have h := h.1 c7
    refine lv_aload_n C0.1 C0.2.1 dX8_slackOf_15 rfl (lv_at hl 0 rfl) ?_
    refine lv_iload_n C0.1 C0.2.1 dX8_slackOf_16 rfl (lv_at hl 1 rfl) ?_
    obtain ⟨i9, h⟩ := h
    refine c_V C0 hO hS (mX8_slackAt 20 h) i9 (by decide) rfl rfl tb_1623 tb_1625 tb_58 tb_81 tb_1626 hd_X8_slackAt rfl ⟨⟨by decide, by decide⟩, by decide, by decide⟩ hl.1 rfl (Nat.le_of_ble_eq_true rfl) dX8_slackOf_17 (kV (fun S8 H locs h hO hS => ?_))
    refine lv_iload_n C0.1 C0.2.1 dX8_slackOf_20 rfl (lv_at hl 2 rfl) ?_
    refine lv_if_eq (tgt := 31) C0.1 C0.2.1 dX8_slackOf_21 (by decide) (fun c10 => ?_) (fun c10 => ?_)
    · have h := h.1 c10
      refine lv_aload_n C0.1 C0.2.1 dX8_slackOf_31 rfl (lv_at hl 0 rfl) ?_
      obtain ⟨i11, h⟩ := h
      refine g8_36 C0 hO i11 tb_1364 dX8_slackOf_32 ?_
      exact e_J C0 Y hO hS h (Nat.le_refl _) (Nat.le_refl _) dX8_slackOf_35
    · have h := h.2 c10
      refine lv_aload_n C0.1 C0.2.1 dX8_slackOf_24 rfl (lv_at hl 0 rfl) ?_
      obtain ⟨i12, h⟩ := h
      refine g8_35 C0 hO i12 tb_1363 dX8_slackOf_25 ?_
      refine lv_goto (tgt := 35) C0.1 C0.2.1 dX8_slackOf_28 (by decide) ?_
      exact e_J C0 Y hO hS h (Nat.le_refl _) (Nat.le_refl _) dX8_slackOf_35
  · have h := h.2 c7
    refine lv_lconst (v := 0) C0.1 C0.2.1 dX8_slackOf_13 (by decide) ?_
    exact e_J C0 Y hO hS h (Nat.le_refl _) (Nat.le_refl _) dX8_slackOf_14
def wX8_slackOf (S : Hp) (x0 : Nat) (x1 : Int32) (x2 : Int32) (Φ : Hp → Int64 → Prop) : Prop := wX8_slackOf_b0 x0 x1 x2 Φ S
set_option maxRecDepth 100000 in
theorem mX8_slackOf {l : Launch} {G : Gw} {S : Hp} {x0 : Nat} {x1 : Int32} {x2 : Int32} {Φ : Hp → Int64 → Prop} (h : wX8_slackOf S x0 x1 x2 Φ) : gM l yX8_slackOf cX8_slackOf 3 (some .long) rm_X8_slackOf [.ref x0, .int x1, .int x2] G S (PJ Φ) := by
  unfold gM
  refine Met.ofW (cc := cX8_slackOf) (maxL := 3) (ret := (some .long)) (by decide) rfl ?_
  intro p e s m args below meth c s₁ B hml hv
  obtain ⟨rfl, hw⟩ := hv
  obtain ⟨C0, Y, hO⟩ := mx_of B hml hw
  have hS : va_S (Ab G.b) s.heap s.heap [] := va_S.rf
  have hl := lv_entry ([.ref x0, .int x1, .int x2]) (n := 3) (Nat.le_of_ble_eq_true rfl)
  rw [lg_entry_eq]
  generalize (lg_sl ([.ref x0, .int x1, .int x2]) ++ List.replicate (3 - (lg_sl ([.ref x0, .int x1, .int x2])).length) Slot.unset).toArray = ls at hl ⊢
  have hl : lv_has ls 3 [(0, .ref x0), (1, .int x1), (2, .int x2)] := hl
  exact bX8_slackOf_b0 C0 Y S _ _ _ h hO hS hl

def rm_X8_slackOfOver : Room := { frames := 26, cells := 0, slots := 0, locals := 754 }
def wX8_slackOfOver_b0 (x0 : Nat) (x1 : Int32) (Φ : Hp → Int64 → Prop) (S : Hp) : Prop := isA S x0 8 ∧ wX8_slackOf S x0 x1 1 (fun S1 r2 => Φ S1 r2)
set_option maxHeartbeats 4000000 in
set_option maxRecDepth 100000 in
theorem bX8_slackOfOver_b0 {p : Program} {l : Launch} {e : Env} {s : State} {m : MethodId} {args : Array Value} {below : List Frame} {meth : Method} {c : Code} {G : Gw} {x0 : Nat} {x1 : Int32} {Φ : Hp → Int64 → Prop} (C0 : Mx p s m c cX8_slackOfOver 2 args yX8_slackOfOver.cls G) (Y : My meth (some .long))  : ∀ (S : Hp) (H : Heap) (locs : List Loc) (ls : Array Slot), wX8_slackOfOver_b0 x0 x1 Φ S → Ok G S H → va_S (Ab G.b) s.heap H locs → lv_has ls 2 [(0, .ref x0), (1, .int x1)] → W p l e rm_X8_slackOfOver s m args below meth c H locs 0 0 (MQ below (gQ G (PJ Φ)) args s rm_X8_slackOfOver.cells rm_X8_slackOfOver.slots (Ab G.b)) (F0 m 0 ls []) := by
  intro S H locs ls h hO hS hl
  unfold wX8_slackOfOver_b0 at h
  refine lv_aload_n C0.1 C0.2.1 dX8_slackOfOver_0 rfl (lv_at hl 0 rfl) ?_
  refine lv_iload_n C0.1 C0.2.1 dX8_slackOfOver_1 rfl (lv_at hl 1 rfl) ?_
  refine lv_iconst (v := 1) C0.1 C0.2.1 dX8_slackOfOver_2 (by decide) ?_
  obtain ⟨i3, h⟩ := h
  refine c_V C0 hO hS (mX8_slackOf h) i3 (by decide) rfl rfl tb_1619 tb_1621 tb_57 tb_81 tb_1622 hd_X8_slackOf rfl ⟨⟨by decide, by decide⟩, by decide, by decide⟩ hl.1 rfl (Nat.le_of_ble_eq_true rfl) dX8_slackOfOver_3 (kJ (fun r2 S1 H locs h hO hS => ?_))
  exact e_J C0 Y hO hS h (Nat.le_refl _) (Nat.le_refl _) dX8_slackOfOver_6
def wX8_slackOfOver (S : Hp) (x0 : Nat) (x1 : Int32) (Φ : Hp → Int64 → Prop) : Prop := wX8_slackOfOver_b0 x0 x1 Φ S
set_option maxRecDepth 100000 in
theorem mX8_slackOfOver {l : Launch} {G : Gw} {S : Hp} {x0 : Nat} {x1 : Int32} {Φ : Hp → Int64 → Prop} (h : wX8_slackOfOver S x0 x1 Φ) : gM l yX8_slackOfOver cX8_slackOfOver 2 (some .long) rm_X8_slackOfOver [.ref x0, .int x1] G S (PJ Φ) := by
  unfold gM
  refine Met.ofW (cc := cX8_slackOfOver) (maxL := 2) (ret := (some .long)) (by decide) rfl ?_
  intro p e s m args below meth c s₁ B hml hv
  obtain ⟨rfl, hw⟩ := hv
  obtain ⟨C0, Y, hO⟩ := mx_of B hml hw
  have hS : va_S (Ab G.b) s.heap s.heap [] := va_S.rf
  have hl := lv_entry ([.ref x0, .int x1]) (n := 2) (Nat.le_of_ble_eq_true rfl)
  rw [lg_entry_eq]
  generalize (lg_sl ([.ref x0, .int x1]) ++ List.replicate (2 - (lg_sl ([.ref x0, .int x1])).length) Slot.unset).toArray = ls at hl ⊢
  have hl : lv_has ls 2 [(0, .ref x0), (1, .int x1)] := hl
  exact bX8_slackOfOver_b0 C0 Y S _ _ _ h hO hS hl

def rm_X8_slackOfUnder : Room := { frames := 26, cells := 0, slots := 0, locals := 754 }
def wX8_slackOfUnder_b0 (x0 : Nat) (x1 : Int32) (Φ : Hp → Int64 → Prop) (S : Hp) : Prop := isA S x0 8 ∧ wX8_slackOf S x0 x1 0 (fun S1 r2 => Φ S1 r2)
set_option maxHeartbeats 4000000 in
set_option maxRecDepth 100000 in
theorem bX8_slackOfUnder_b0 {p : Program} {l : Launch} {e : Env} {s : State} {m : MethodId} {args : Array Value} {below : List Frame} {meth : Method} {c : Code} {G : Gw} {x0 : Nat} {x1 : Int32} {Φ : Hp → Int64 → Prop} (C0 : Mx p s m c cX8_slackOfUnder 2 args yX8_slackOfUnder.cls G) (Y : My meth (some .long))  : ∀ (S : Hp) (H : Heap) (locs : List Loc) (ls : Array Slot), wX8_slackOfUnder_b0 x0 x1 Φ S → Ok G S H → va_S (Ab G.b) s.heap H locs → lv_has ls 2 [(0, .ref x0), (1, .int x1)] → W p l e rm_X8_slackOfUnder s m args below meth c H locs 0 0 (MQ below (gQ G (PJ Φ)) args s rm_X8_slackOfUnder.cells rm_X8_slackOfUnder.slots (Ab G.b)) (F0 m 0 ls []) := by
  intro S H locs ls h hO hS hl
  unfold wX8_slackOfUnder_b0 at h
  refine lv_aload_n C0.1 C0.2.1 dX8_slackOfUnder_0 rfl (lv_at hl 0 rfl) ?_
  refine lv_iload_n C0.1 C0.2.1 dX8_slackOfUnder_1 rfl (lv_at hl 1 rfl) ?_
  refine lv_iconst (v := 0) C0.1 C0.2.1 dX8_slackOfUnder_2 (by decide) ?_
  obtain ⟨i3, h⟩ := h
  refine c_V C0 hO hS (mX8_slackOf h) i3 (by decide) rfl rfl tb_1619 tb_1621 tb_57 tb_81 tb_1622 hd_X8_slackOf rfl ⟨⟨by decide, by decide⟩, by decide, by decide⟩ hl.1 rfl (Nat.le_of_ble_eq_true rfl) dX8_slackOfUnder_3 (kJ (fun r2 S1 H locs h hO hS => ?_))
  exact e_J C0 Y hO hS h (Nat.le_refl _) (Nat.le_refl _) dX8_slackOfUnder_6
def wX8_slackOfUnder (S : Hp) (x0 : Nat) (x1 : Int32) (Φ : Hp → Int64 → Prop) : Prop := wX8_slackOfUnder_b0 x0 x1 Φ S
set_option maxRecDepth 100000 in
theorem mX8_slackOfUnder {l : Launch} {G : Gw} {S : Hp} {x0 : Nat} {x1 : Int32} {Φ : Hp → Int64 → Prop} (h : wX8_slackOfUnder S x0 x1 Φ) : gM l yX8_slackOfUnder cX8_slackOfUnder 2 (some .long) rm_X8_slackOfUnder [.ref x0, .int x1] G S (PJ Φ) := by
  unfold gM
  refine Met.ofW (cc := cX8_slackOfUnder) (maxL := 2) (ret := (some .long)) (by decide) rfl ?_
  intro p e s m args below meth c s₁ B hml hv
  obtain ⟨rfl, hw⟩ := hv
  obtain ⟨C0, Y, hO⟩ := mx_of B hml hw
  have hS : va_S (Ab G.b) s.heap s.heap [] := va_S.rf
  have hl := lv_entry ([.ref x0, .int x1]) (n := 2) (Nat.le_of_ble_eq_true rfl)
  rw [lg_entry_eq]
  generalize (lg_sl ([.ref x0, .int x1]) ++ List.replicate (2 - (lg_sl ([.ref x0, .int x1])).length) Slot.unset).toArray = ls at hl ⊢
  have hl : lv_has ls 2 [(0, .ref x0), (1, .int x1)] := hl
  exact bX8_slackOfUnder_b0 C0 Y S _ _ _ h hO hS hl

def rm_X8_isNoCam : Room := { frames := 1, cells := 0, slots := 0, locals := 22 }
def wX8_isNoCam_b0 (x0 : Nat) (x1 : Int32) (Φ : Hp → Int32 → Prop) (S : Hp) : Prop := isA S x0 8 ∧ wX8_isIn S x1 0 ((S.FI 545 x0) - 1) (fun S2 r3 => ((¬ r3 = 0 → Φ S2 0) ∧ (r3 = 0 → Φ S2 1)))
set_option maxHeartbeats 4000000 in
set_option maxRecDepth 100000 in
theorem bX8_isNoCam_b0 {p : Program} {l : Launch} {e : Env} {s : State} {m : MethodId} {args : Array Value} {below : List Frame} {meth : Method} {c : Code} {G : Gw} {x0 : Nat} {x1 : Int32} {Φ : Hp → Int32 → Prop} (C0 : Mx p s m c cX8_isNoCam 2 args yX8_isNoCam.cls G) (Y : My meth (some .boolean))  : ∀ (S : Hp) (H : Heap) (locs : List Loc) (ls : Array Slot), wX8_isNoCam_b0 x0 x1 Φ S → Ok G S H → va_S (Ab G.b) s.heap H locs → lv_has ls 2 [(0, .ref x0), (1, .int x1)] → W p l e rm_X8_isNoCam s m args below meth c H locs 0 0 (MQ below (gQ G (PI Φ)) args s rm_X8_isNoCam.cells rm_X8_isNoCam.slots (Ab G.b)) (F0 m 0 ls []) := by
  intro S H locs ls h hO hS hl
  unfold wX8_isNoCam_b0 at h
  refine lv_iload_n C0.1 C0.2.1 dX8_isNoCam_0 rfl (lv_at hl 1 rfl) ?_
  refine lv_iconst (v := 0) C0.1 C0.2.1 dX8_isNoCam_1 (by decide) ?_
  refine lv_aload_n C0.1 C0.2.1 dX8_isNoCam_2 rfl (lv_at hl 0 rfl) ?_
  obtain ⟨i1, h⟩ := h
  refine g8_33 C0 hO i1 tb_1361 dX8_isNoCam_3 ?_
  refine lv_iconst (v := 1) C0.1 C0.2.1 dX8_isNoCam_6 (by decide) ?_
  refine lv_isub C0.1 C0.2.1 dX8_isNoCam_7 ?_
  refine c_S C0 hO hS (mX8_isIn h) tb_1463 tb_1464 tb_81 tb_1465 hd_X8_isIn rfl ⟨⟨by decide, by decide⟩, by decide, by decide⟩ hl.1 rfl (Nat.le_of_ble_eq_true rfl) dX8_isNoCam_8 (kI (fun r3 S2 H locs h hO hS => ?_))
  refine lv_if_ne (tgt := 18) C0.1 C0.2.1 dX8_isNoCam_11 (by decide) (fun c4 => ?_) (fun c4 => ?_)
  · have h := h.1 c4
    refine lv_iconst (v := 0) C0.1 C0.2.1 dX8_isNoCam_18 (by decide) ?_
    exact e_Z C0 Y hO hS rfl h (Nat.le_refl _) (Nat.le_refl _) dX8_isNoCam_19
  · have h := h.2 c4
    refine lv_iconst (v := 1) C0.1 C0.2.1 dX8_isNoCam_14 (by decide) ?_
    refine lv_goto (tgt := 19) C0.1 C0.2.1 dX8_isNoCam_15 (by decide) ?_
    exact e_Z C0 Y hO hS rfl h (Nat.le_refl _) (Nat.le_refl _) dX8_isNoCam_19
def wX8_isNoCam (S : Hp) (x0 : Nat) (x1 : Int32) (Φ : Hp → Int32 → Prop) : Prop := wX8_isNoCam_b0 x0 x1 Φ S
set_option maxRecDepth 100000 in
theorem mX8_isNoCam {l : Launch} {G : Gw} {S : Hp} {x0 : Nat} {x1 : Int32} {Φ : Hp → Int32 → Prop} (h : wX8_isNoCam S x0 x1 Φ) : gM l yX8_isNoCam cX8_isNoCam 2 (some .boolean) rm_X8_isNoCam [.ref x0, .int x1] G S (PI Φ) := by
  unfold gM
  refine Met.ofW (cc := cX8_isNoCam) (maxL := 2) (ret := (some .boolean)) (by decide) rfl ?_
  intro p e s m args below meth c s₁ B hml hv
  obtain ⟨rfl, hw⟩ := hv
  obtain ⟨C0, Y, hO⟩ := mx_of B hml hw
  have hS : va_S (Ab G.b) s.heap s.heap [] := va_S.rf
  have hl := lv_entry ([.ref x0, .int x1]) (n := 2) (Nat.le_of_ble_eq_true rfl)
  rw [lg_entry_eq]
  generalize (lg_sl ([.ref x0, .int x1]) ++ List.replicate (2 - (lg_sl ([.ref x0, .int x1])).length) Slot.unset).toArray = ls at hl ⊢
  have hl : lv_has ls 2 [(0, .ref x0), (1, .int x1)] := hl
  exact bX8_isNoCam_b0 C0 Y S _ _ _ h hO hS hl

def rm_X8_cam : Room := { frames := 2, cells := 0, slots := 0, locals := 43 }
def wX8_cam_b49 (x0 : Nat) (x1 : Int32) (Φ : Hp → Int32 → Prop) (k49 : Hp → Int32 → Prop) (S : Hp) (v2 : Int32) : Prop := ((24 ≤ v2 → isA S x0 8 ∧ ∀ S3, S3 = S.setFI 545 x0 ((S.FI 545 x0) + 1) → Φ S3 ((S3.FI 545 x0) - 1)) ∧ (¬ (24 ≤ v2) → isA S x0 8 ∧ ∃ a5, S.FR 539 x0 = some a5 ∧ isA S a5 26 ∧ vp_in (S.FI 545 x0) (S.N a5) ∧ ∃ a8, S.AR a5 ((S.FI 545 x0).toNatClampNeg) = some a8 ∧ isA S a8 21 ∧ vp_in v2 (S.N a8) ∧ ∀ S11, S11 = S.setAI a8 v2.toNatClampNeg (-1) → k49 S11 (v2 + 1)))
set_option maxHeartbeats 4000000 in
set_option maxRecDepth 100000 in
theorem bX8_cam_b49 {p : Program} {l : Launch} {e : Env} {s : State} {m : MethodId} {args : Array Value} {below : List Frame} {meth : Method} {c : Code} {G : Gw} {x0 : Nat} {x1 : Int32} {Φ : Hp → Int32 → Prop} (C0 : Mx p s m c cX8_cam 3 args yX8_cam.cls G) (Y : My meth (some .int)) {k49 : Hp → Int32 → Prop} (hk49 : ∀ (S : Hp) (v2 : Int32) (H : Heap) (locs : List Loc) (ls : Array Slot), k49 S v2 → Ok G S H → va_S (Ab G.b) s.heap H locs → lv_has ls 3 [(0, .ref x0), (1, .int x1), (2, .int v2)] → W p l e rm_X8_cam s m args below meth c H locs 0 0 (MQ below (gQ G (PI Φ)) args s rm_X8_cam.cells rm_X8_cam.slots (Ab G.b)) (F0 m 49 ls [])) : ∀ (S : Hp) (v2 : Int32) (H : Heap) (locs : List Loc) (ls : Array Slot), wX8_cam_b49 x0 x1 Φ k49 S v2 → Ok G S H → va_S (Ab G.b) s.heap H locs → lv_has ls 3 [(0, .ref x0), (1, .int x1), (2, .int v2)] → W p l e rm_X8_cam s m args below meth c H locs 0 0 (MQ below (gQ G (PI Φ)) args s rm_X8_cam.cells rm_X8_cam.slots (Ab G.b)) (F0 m 49 ls []) := by
  intro S v2 H locs ls h hO hS hl
  unfold wX8_cam_b49 at h
  refine lv_iload_n C0.1 C0.2.1 dX8_cam_49 rfl (lv_at hl 2 rfl) ?_
  refine lv_bipush (v := 24) C0.1 C0.2.1 dX8_cam_50 (by decide) ?_
  refine lv_icmp_ge (tgt := 73) C0.1 C0.2.1 dX8_cam_52 (by decide) (fun c1 => ?_) (fun c1 => ?_)
  · have h := h.1 c1
    refine lv_aload_n C0.1 C0.2.1 dX8_cam_73 rfl (lv_at hl 0 rfl) ?_
    refine lv_dup C0.1 C0.2.1 dX8_cam_74 rfl ?_
    obtain ⟨i2, h⟩ := h
    refine g8_33 C0 hO i2 tb_1361 dX8_cam_75 ?_
    refine lv_iconst (v := 1) C0.1 C0.2.1 dX8_cam_78 (by decide) ?_
    refine lv_iadd C0.1 C0.2.1 dX8_cam_79 ?_
    refine p8_33 C0 hO hS i2 tb_1361 dX8_cam_80 (fun H locs hO hS => ?_)
    have h := h _ rfl
    refine lv_aload_n C0.1 C0.2.1 dX8_cam_83 rfl (lv_at hl 0 rfl) ?_
    refine g8_33 C0 hO (sA_FI i2) tb_1361 dX8_cam_84 ?_
    refine lv_iconst (v := 1) C0.1 C0.2.1 dX8_cam_87 (by decide) ?_
    refine lv_isub C0.1 C0.2.1 dX8_cam_88 ?_
    exact e_I C0 Y hO hS h (Nat.le_refl _) (Nat.le_refl _) dX8_cam_89
  · have h := h.2 c1
    refine lv_aload_n C0.1 C0.2.1 dX8_cam_55 rfl (lv_at hl 0 rfl) ?_
    obtain ⟨i4, h⟩ := h
    obtain ⟨a5, ea5, h⟩ := h
    refine g8_27 C0 hO i4 ea5 tb_1355 dX8_cam_56 ?_
    refine lv_aload_n C0.1 C0.2.1 dX8_cam_59 rfl (lv_at hl 0 rfl) ?_
    refine g8_33 C0 hO i4 tb_1361 dX8_cam_60 ?_
    obtain ⟨i6, h⟩ := h
    obtain ⟨e7, a8, ea8, h⟩ := h
    refine r_oald26 C0 hO i6 e7 dX8_cam_63 ?_
    rw [ea8]
    change W _ _ _ _ _ _ _ _ _ _ _ _ _ _ _ (F0 _ _ _ (.ref a8 :: _))
    refine lv_iload_n C0.1 C0.2.1 dX8_cam_64 rfl (lv_at hl 2 rfl) ?_
    refine lv_iconst (v := (-1)) C0.1 C0.2.1 dX8_cam_65 (by decide) ?_
    obtain ⟨i9, h⟩ := h
    obtain ⟨e10, h⟩ := h
    refine r_iast C0 hO hS i9 e10 dX8_cam_66 (fun H locs hO hS => ?_)
    have h := h _ rfl
    refine lv_iinc (v := _ + 1) C0.1 C0.2.1 dX8_cam_67 hl (k := 2) rfl rfl (by decide) rfl (fun ls hl => ?_)
    refine lv_goto (tgt := 49) C0.1 C0.2.1 dX8_cam_70 (by decide) ?_
    exact hk49 _ _ _ _ _ h hO hS (lv_sub hl [1, 2, 0] rfl)
set_option maxHeartbeats 4000000 in
set_option maxRecDepth 100000 in
theorem lX8_cam_b49 {p : Program} {l : Launch} {e : Env} {s : State} {m : MethodId} {args : Array Value} {below : List Frame} {meth : Method} {c : Code} {G : Gw} {x0 : Nat} {x1 : Int32} {Φ : Hp → Int32 → Prop} (C0 : Mx p s m c cX8_cam 3 args yX8_cam.cls G) (Y : My meth (some .int))  : ∀ n9 : Nat, ∀ (S : Hp) (v2 : Int32) (H : Heap) (locs : List Loc) (ls : Array Slot), it2 (wX8_cam_b49 x0 x1 Φ) n9 S v2 → Ok G S H → va_S (Ab G.b) s.heap H locs → lv_has ls 3 [(0, .ref x0), (1, .int x1), (2, .int v2)] → W p l e rm_X8_cam s m args below meth c H locs 0 0 (MQ below (gQ G (PI Φ)) args s rm_X8_cam.cells rm_X8_cam.slots (Ab G.b)) (F0 m 49 ls []) := by
  intro n9
  induction n9 with
  | zero => intro S v2 H locs ls h; exact (h : False).elim
  | succ n9 ih => intro S v2 H locs ls h hO hS hl; exact bX8_cam_b49 C0 Y ih S v2 H locs ls h hO hS hl
def wX8_cam_b28 (x0 : Nat) (x1 : Int32) (Φ : Hp → Int32 → Prop) (S : Hp) (z0 : Nat) (z1 : Int32) : Prop := isA S z0 8 ∧ wX8_isThrown S z0 z1 2 (fun S1 r2 => ((r2 = 0 → isA S1 x0 8 ∧ ∃ a6, S1.FR 534 x0 = some a6 ∧ isA S1 a6 21 ∧ vp_in (S1.FI 545 x0) (S1.N a6) ∧ ∀ S9, S9 = S1.setAI a6 ((S1.FI 545 x0).toNatClampNeg) x1 → ∃ n, it2 (wX8_cam_b49 x0 x1 Φ) n S9 0) ∧ (¬ (r2 = 0) → Φ S1 0)))
set_option maxHeartbeats 4000000 in
set_option maxRecDepth 100000 in
theorem bX8_cam_b28 {p : Program} {l : Launch} {e : Env} {s : State} {m : MethodId} {args : Array Value} {below : List Frame} {meth : Method} {c : Code} {G : Gw} {x0 : Nat} {x1 : Int32} {Φ : Hp → Int32 → Prop} (C0 : Mx p s m c cX8_cam 3 args yX8_cam.cls G) (Y : My meth (some .int))  : ∀ (S : Hp) (z0 : Nat) (z1 : Int32) (H : Heap) (locs : List Loc) (ls : Array Slot), wX8_cam_b28 x0 x1 Φ S z0 z1 → Ok G S H → va_S (Ab G.b) s.heap H locs → lv_has ls 3 [(0, .ref x0), (1, .int x1)] → W p l e rm_X8_cam s m args below meth c H locs 0 0 (MQ below (gQ G (PI Φ)) args s rm_X8_cam.cells rm_X8_cam.slots (Ab G.b)) (F0 m 28 ls [.int z1, .ref z0]) := by
  intro S z0 z1 H locs ls h hO hS hl
  unfold wX8_cam_b28 at h
  refine lv_iconst (v := 2) C0.1 C0.2.1 dX8_cam_28 (by decide) ?_
  obtain ⟨i3, h⟩ := h
  refine c_V C0 hO hS (mX8_isThrown h) i3 (by decide) rfl rfl tb_1451 tb_1453 tb_37 tb_81 tb_1454 hd_X8_isThrown rfl ⟨⟨by decide, by decide⟩, by decide, by decide⟩ hl.1 rfl (Nat.le_of_ble_eq_true rfl) dX8_cam_29 (kI (fun r2 S1 H locs h hO hS => ?_))
  refine lv_if_eq (tgt := 37) C0.1 C0.2.1 dX8_cam_32 (by decide) (fun c4 => ?_) (fun c4 => ?_)
  · have h := h.1 c4
    refine lv_aload_n C0.1 C0.2.1 dX8_cam_37 rfl (lv_at hl 0 rfl) ?_
    obtain ⟨i5, h⟩ := h
    obtain ⟨a6, ea6, h⟩ := h
    refine g8_22 C0 hO i5 ea6 tb_1350 dX8_cam_38 ?_
    refine lv_aload_n C0.1 C0.2.1 dX8_cam_41 rfl (lv_at hl 0 rfl) ?_
    refine g8_33 C0 hO i5 tb_1361 dX8_cam_42 ?_
    refine lv_iload_n C0.1 C0.2.1 dX8_cam_45 rfl (lv_at hl 1 rfl) ?_
    obtain ⟨i7, h⟩ := h
    obtain ⟨e8, h⟩ := h
    refine r_iast C0 hO hS i7 e8 dX8_cam_46 (fun H locs hO hS => ?_)
    have h := h _ rfl
    refine lv_iconst (v := 0) C0.1 C0.2.1 dX8_cam_47 (by decide) ?_
    refine lv_istore_n C0.1 C0.2.1 dX8_cam_48 rfl hl (by decide) rfl (fun ls hl => ?_)
    obtain ⟨n9, h⟩ := h
    exact lX8_cam_b49 C0 Y n9 _ _ _ _ _ h hO hS (lv_sub hl [1, 2, 0] rfl)
  · have h := h.2 c4
    refine lv_iconst (v := 0) C0.1 C0.2.1 dX8_cam_35 (by decide) ?_
    exact e_I C0 Y hO hS h (Nat.le_refl _) (Nat.le_refl _) dX8_cam_36
def wX8_cam_b0 (x0 : Nat) (x1 : Int32) (Φ : Hp → Int32 → Prop) (S : Hp) : Prop := isA S x0 8 ∧ wX8_isNoShaft S x0 x1 (fun S1 r2 => isA S1 x0 8 ∧ wX8_isThrown S1 x0 r2 1 (fun S4 r5 => ((¬ r5 = 0 → Φ S4 0) ∧ (r5 = 0 → isA S4 x0 8 ∧ ((¬ (S4.FI 545 x0) = 8 → wX8_cam_b28 x0 x1 Φ S4 x0 0) ∧ ((S4.FI 545 x0) = 8 → wX8_cam_b28 x0 x1 Φ S4 x0 1))))))
set_option maxHeartbeats 4000000 in
set_option maxRecDepth 100000 in
theorem bX8_cam_b0 {p : Program} {l : Launch} {e : Env} {s : State} {m : MethodId} {args : Array Value} {below : List Frame} {meth : Method} {c : Code} {G : Gw} {x0 : Nat} {x1 : Int32} {Φ : Hp → Int32 → Prop} (C0 : Mx p s m c cX8_cam 3 args yX8_cam.cls G) (Y : My meth (some .int))  : ∀ (S : Hp) (H : Heap) (locs : List Loc) (ls : Array Slot), wX8_cam_b0 x0 x1 Φ S → Ok G S H → va_S (Ab G.b) s.heap H locs → lv_has ls 3 [(0, .ref x0), (1, .int x1)] → W p l e rm_X8_cam s m args below meth c H locs 0 0 (MQ below (gQ G (PI Φ)) args s rm_X8_cam.cells rm_X8_cam.slots (Ab G.b)) (F0 m 0 ls []) := by
  intro S H locs ls h hO hS hl
  unfold wX8_cam_b0 at h
  refine lv_aload_n C0.1 C0.2.1 dX8_cam_0 rfl (lv_at hl 0 rfl) ?_
  refine lv_aload_n C0.1 C0.2.1 dX8_cam_1 rfl (lv_at hl 0 rfl) ?_
  refine lv_iload_n C0.1 C0.2.1 dX8_cam_2 rfl (lv_at hl 1 rfl) ?_
  obtain ⟨i3, h⟩ := h
  refine c_V C0 hO hS (mX8_isNoShaft h) i3 (by decide) rfl rfl tb_1459 tb_1461 tb_38 tb_81 tb_1462 hd_X8_isNoShaft rfl ⟨⟨by decide, by decide⟩, by decide, by decide⟩ hl.1 rfl (Nat.le_of_ble_eq_true rfl) dX8_cam_3 (kI (fun r2 S1 H locs h hO hS => ?_))
  refine lv_iconst (v := 1) C0.1 C0.2.1 dX8_cam_6 (by decide) ?_
  obtain ⟨i6, h⟩ := h
  refine c_V C0 hO hS (mX8_isThrown h) i6 (by decide) rfl rfl tb_1451 tb_1453 tb_37 tb_81 tb_1454 hd_X8_isThrown rfl ⟨⟨by decide, by decide⟩, by decide, by decide⟩ hl.1 rfl (Nat.le_of_ble_eq_true rfl) dX8_cam_7 (kI (fun r5 S4 H locs h hO hS => ?_))
  refine lv_if_ne (tgt := 35) C0.1 C0.2.1 dX8_cam_10 (by decide) (fun c7 => ?_) (fun c7 => ?_)
  · have h := h.1 c7
    refine lv_iconst (v := 0) C0.1 C0.2.1 dX8_cam_35 (by decide) ?_
    exact e_I C0 Y hO hS h (Nat.le_refl _) (Nat.le_refl _) dX8_cam_36
  · have h := h.2 c7
    refine lv_aload_n C0.1 C0.2.1 dX8_cam_13 rfl (lv_at hl 0 rfl) ?_
    refine lv_aload_n C0.1 C0.2.1 dX8_cam_14 rfl (lv_at hl 0 rfl) ?_
    obtain ⟨i8, h⟩ := h
    refine g8_33 C0 hO i8 tb_1361 dX8_cam_15 ?_
    refine lv_bipush (v := 8) C0.1 C0.2.1 dX8_cam_18 (by decide) ?_
    refine lv_icmp_ne (tgt := 27) C0.1 C0.2.1 dX8_cam_20 (by decide) (fun c9 => ?_) (fun c9 => ?_)
    · have h := h.1 c9
      refine lv_iconst (v := 0) C0.1 C0.2.1 dX8_cam_27 (by decide) ?_
      exact bX8_cam_b28 C0 Y _ _ _ _ _ _ h hO hS (lv_sub hl [0, 1] rfl)
    · have h := h.2 c9
      refine lv_iconst (v := 1) C0.1 C0.2.1 dX8_cam_23 (by decide) ?_
      refine lv_goto (tgt := 28) C0.1 C0.2.1 dX8_cam_24 (by decide) ?_
      exact bX8_cam_b28 C0 Y _ _ _ _ _ _ h hO hS (lv_sub hl [0, 1] rfl)
def wX8_cam (S : Hp) (x0 : Nat) (x1 : Int32) (Φ : Hp → Int32 → Prop) : Prop := wX8_cam_b0 x0 x1 Φ S
set_option maxRecDepth 100000 in
theorem mX8_cam {l : Launch} {G : Gw} {S : Hp} {x0 : Nat} {x1 : Int32} {Φ : Hp → Int32 → Prop} (h : wX8_cam S x0 x1 Φ) : gM l yX8_cam cX8_cam 3 (some .int) rm_X8_cam [.ref x0, .int x1] G S (PI Φ) := by
  unfold gM
  refine Met.ofW (cc := cX8_cam) (maxL := 3) (ret := (some .int)) (by decide) rfl ?_
  intro p e s m args below meth c s₁ B hml hv
  obtain ⟨rfl, hw⟩ := hv
  obtain ⟨C0, Y, hO⟩ := mx_of B hml hw
  have hS : va_S (Ab G.b) s.heap s.heap [] := va_S.rf
  have hl := lv_entry ([.ref x0, .int x1]) (n := 3) (Nat.le_of_ble_eq_true rfl)
  rw [lg_entry_eq]
  generalize (lg_sl ([.ref x0, .int x1]) ++ List.replicate (3 - (lg_sl ([.ref x0, .int x1])).length) Slot.unset).toArray = ls at hl ⊢
  have hl : lv_has ls 3 [(0, .ref x0), (1, .int x1)] := hl
  exact bX8_cam_b0 C0 Y S _ _ _ h hO hS hl

def rm_X8_partsOf : Room := { frames := 0, cells := 0, slots := 0, locals := 0 }
def wX8_partsOf_b4 (x0 : Nat) (x1 : Int32) (Φ : Hp → Int32 → Prop) (k4 : Hp → Int32 → Int32 → Prop) (S : Hp) (v2 : Int32) (v3 : Int32) : Prop := isA S x0 8 ∧ ∃ a2, S.FR 535 x0 = some a2 ∧ isA S a2 21 ∧ vp_in x1 (S.N a2) ∧ (((S.AI a2 x1.toNatClampNeg) ≤ v3 → Φ S v2) ∧ (¬ ((S.AI a2 x1.toNatClampNeg) ≤ v3) → ∃ a6, S.FR 536 x0 = some a6 ∧ isA S a6 26 ∧ vp_in x1 (S.N a6) ∧ ∃ a9, S.AR a6 x1.toNatClampNeg = some a9 ∧ isA S a9 21 ∧ vp_in v3 (S.N a9) ∧ k4 S (v2 + (S.AI a9 v3.toNatClampNeg)) (v3 + 1)))
set_option maxHeartbeats 4000000 in
set_option maxRecDepth 100000 in
theorem bX8_partsOf_b4 {p : Program} {l : Launch} {e : Env} {s : State} {m : MethodId} {args : Array Value} {below : List Frame} {meth : Method} {c : Code} {G : Gw} {x0 : Nat} {x1 : Int32} {Φ : Hp → Int32 → Prop} (C0 : Mx p s m c cX8_partsOf 4 args yX8_partsOf.cls G) (Y : My meth (some .int)) {k4 : Hp → Int32 → Int32 → Prop} (hk4 : ∀ (S : Hp) (v2 : Int32) (v3 : Int32) (H : Heap) (locs : List Loc) (ls : Array Slot), k4 S v2 v3 → Ok G S H → va_S (Ab G.b) s.heap H locs → lv_has ls 4 [(0, .ref x0), (1, .int x1), (2, .int v2), (3, .int v3)] → W p l e rm_X8_partsOf s m args below meth c H locs 0 0 (MQ below (gQ G (PI Φ)) args s rm_X8_partsOf.cells rm_X8_partsOf.slots (Ab G.b)) (F0 m 4 ls [])) : ∀ (S : Hp) (v2 : Int32) (v3 : Int32) (H : Heap) (locs : List Loc) (ls : Array Slot), wX8_partsOf_b4 x0 x1 Φ k4 S v2 v3 → Ok G S H → va_S (Ab G.b) s.heap H locs → lv_has ls 4 [(0, .ref x0), (1, .int x1), (2, .int v2), (3, .int v3)] → W p l e rm_X8_partsOf s m args below meth c H locs 0 0 (MQ below (gQ G (PI Φ)) args s rm_X8_partsOf.cells rm_X8_partsOf.slots (Ab G.b)) (F0 m 4 ls []) := by
  intro S v2 v3 H locs ls h hO hS hl
  unfold wX8_partsOf_b4 at h
  refine lv_iload_n C0.1 C0.2.1 dX8_partsOf_4 rfl (lv_at hl 3 rfl) ?_
  refine lv_aload_n C0.1 C0.2.1 dX8_partsOf_5 rfl (lv_at hl 0 rfl) ?_
  obtain ⟨i1, h⟩ := h
  obtain ⟨a2, ea2, h⟩ := h
  refine g8_23 C0 hO i1 ea2 tb_1351 dX8_partsOf_6 ?_
  refine lv_iload_n C0.1 C0.2.1 dX8_partsOf_9 rfl (lv_at hl 1 rfl) ?_
  obtain ⟨i3, h⟩ := h
  obtain ⟨e4, h⟩ := h
  refine r_iald C0 hO i3 e4 dX8_partsOf_10 ?_
  refine lv_icmp_ge (tgt := 31) C0.1 C0.2.1 dX8_partsOf_11 (by decide) (fun c5 => ?_) (fun c5 => ?_)
  · have h := h.1 c5
    refine lv_iload_n C0.1 C0.2.1 dX8_partsOf_31 rfl (lv_at hl 2 rfl) ?_
    exact e_I C0 Y hO hS h (Nat.le_refl _) (Nat.le_refl _) dX8_partsOf_32
  · have h := h.2 c5
    refine lv_iload_n C0.1 C0.2.1 dX8_partsOf_14 rfl (lv_at hl 2 rfl) ?_
    refine lv_aload_n C0.1 C0.2.1 dX8_partsOf_15 rfl (lv_at hl 0 rfl) ?_
    obtain ⟨a6, ea6, h⟩ := h
    refine g8_24 C0 hO i1 ea6 tb_1352 dX8_partsOf_16 ?_
    refine lv_iload_n C0.1 C0.2.1 dX8_partsOf_19 rfl (lv_at hl 1 rfl) ?_
    obtain ⟨i7, h⟩ := h
    obtain ⟨e8, a9, ea9, h⟩ := h
    refine r_oald26 C0 hO i7 e8 dX8_partsOf_20 ?_
    rw [ea9]
    change W _ _ _ _ _ _ _ _ _ _ _ _ _ _ _ (F0 _ _ _ (.ref a9 :: _))
    refine lv_iload_n C0.1 C0.2.1 dX8_partsOf_21 rfl (lv_at hl 3 rfl) ?_
    obtain ⟨i10, h⟩ := h
    obtain ⟨e11, h⟩ := h
    refine r_iald C0 hO i10 e11 dX8_partsOf_22 ?_
    refine lv_iadd C0.1 C0.2.1 dX8_partsOf_23 ?_
    refine lv_istore_n C0.1 C0.2.1 dX8_partsOf_24 rfl hl (by decide) rfl (fun ls hl => ?_)
    refine lv_iinc (v := _ + 1) C0.1 C0.2.1 dX8_partsOf_25 hl (k := 3) rfl rfl (by decide) rfl (fun ls hl => ?_)
    refine lv_goto (tgt := 4) C0.1 C0.2.1 dX8_partsOf_28 (by decide) ?_
    exact hk4 _ _ _ _ _ _ h hO hS (lv_sub hl [2, 3, 1, 0] rfl)
set_option maxHeartbeats 4000000 in
set_option maxRecDepth 100000 in
theorem lX8_partsOf_b4 {p : Program} {l : Launch} {e : Env} {s : State} {m : MethodId} {args : Array Value} {below : List Frame} {meth : Method} {c : Code} {G : Gw} {x0 : Nat} {x1 : Int32} {Φ : Hp → Int32 → Prop} (C0 : Mx p s m c cX8_partsOf 4 args yX8_partsOf.cls G) (Y : My meth (some .int))  : ∀ n9 : Nat, ∀ (S : Hp) (v2 : Int32) (v3 : Int32) (H : Heap) (locs : List Loc) (ls : Array Slot), it3 (wX8_partsOf_b4 x0 x1 Φ) n9 S v2 v3 → Ok G S H → va_S (Ab G.b) s.heap H locs → lv_has ls 4 [(0, .ref x0), (1, .int x1), (2, .int v2), (3, .int v3)] → W p l e rm_X8_partsOf s m args below meth c H locs 0 0 (MQ below (gQ G (PI Φ)) args s rm_X8_partsOf.cells rm_X8_partsOf.slots (Ab G.b)) (F0 m 4 ls []) := by
  intro n9
  induction n9 with
  | zero => intro S v2 v3 H locs ls h; exact (h : False).elim
  | succ n9 ih => intro S v2 v3 H locs ls h hO hS hl; exact bX8_partsOf_b4 C0 Y ih S v2 v3 H locs ls h hO hS hl
def wX8_partsOf_b0 (x0 : Nat) (x1 : Int32) (Φ : Hp → Int32 → Prop) (S : Hp) : Prop := ∃ n, it3 (wX8_partsOf_b4 x0 x1 Φ) n S 0 0
set_option maxHeartbeats 4000000 in
set_option maxRecDepth 100000 in
theorem bX8_partsOf_b0 {p : Program} {l : Launch} {e : Env} {s : State} {m : MethodId} {args : Array Value} {below : List Frame} {meth : Method} {c : Code} {G : Gw} {x0 : Nat} {x1 : Int32} {Φ : Hp → Int32 → Prop} (C0 : Mx p s m c cX8_partsOf 4 args yX8_partsOf.cls G) (Y : My meth (some .int))  : ∀ (S : Hp) (H : Heap) (locs : List Loc) (ls : Array Slot), wX8_partsOf_b0 x0 x1 Φ S → Ok G S H → va_S (Ab G.b) s.heap H locs → lv_has ls 4 [(0, .ref x0), (1, .int x1)] → W p l e rm_X8_partsOf s m args below meth c H locs 0 0 (MQ below (gQ G (PI Φ)) args s rm_X8_partsOf.cells rm_X8_partsOf.slots (Ab G.b)) (F0 m 0 ls []) := by
  intro S H locs ls h hO hS hl
  unfold wX8_partsOf_b0 at h
  refine lv_iconst (v := 0) C0.1 C0.2.1 dX8_partsOf_0 (by decide) ?_
  refine lv_istore_n C0.1 C0.2.1 dX8_partsOf_1 rfl hl (by decide) rfl (fun ls hl => ?_)
  refine lv_iconst (v := 0) C0.1 C0.2.1 dX8_partsOf_2 (by decide) ?_
  refine lv_istore_n C0.1 C0.2.1 dX8_partsOf_3 rfl hl (by decide) rfl (fun ls hl => ?_)
  obtain ⟨n9, h⟩ := h
  exact lX8_partsOf_b4 C0 Y n9 _ _ _ _ _ _ h hO hS (lv_sub hl [2, 3, 1, 0] rfl)
def wX8_partsOf (S : Hp) (x0 : Nat) (x1 : Int32) (Φ : Hp → Int32 → Prop) : Prop := wX8_partsOf_b0 x0 x1 Φ S
set_option maxRecDepth 100000 in
theorem mX8_partsOf {l : Launch} {G : Gw} {S : Hp} {x0 : Nat} {x1 : Int32} {Φ : Hp → Int32 → Prop} (h : wX8_partsOf S x0 x1 Φ) : gM l yX8_partsOf cX8_partsOf 4 (some .int) rm_X8_partsOf [.ref x0, .int x1] G S (PI Φ) := by
  unfold gM
  refine Met.ofW (cc := cX8_partsOf) (maxL := 4) (ret := (some .int)) (by decide) rfl ?_
  intro p e s m args below meth c s₁ B hml hv
  obtain ⟨rfl, hw⟩ := hv
  obtain ⟨C0, Y, hO⟩ := mx_of B hml hw
  have hS : va_S (Ab G.b) s.heap s.heap [] := va_S.rf
  have hl := lv_entry ([.ref x0, .int x1]) (n := 4) (Nat.le_of_ble_eq_true rfl)
  rw [lg_entry_eq]
  generalize (lg_sl ([.ref x0, .int x1]) ++ List.replicate (4 - (lg_sl ([.ref x0, .int x1])).length) Slot.unset).toArray = ls at hl ⊢
  have hl : lv_has ls 4 [(0, .ref x0), (1, .int x1)] := hl
  exact bX8_partsOf_b0 C0 Y S _ _ _ h hO hS hl

def rm_X8_adds : Room := { frames := 0, cells := 0, slots := 0, locals := 0 }
def wX8_adds_b0 (x0 : Nat) (x1 : Int32) (x2 : Int32) (x3 : Int32) (x4 : Int32) (Φ : Hp → Prop) (S : Hp) : Prop := isA S x0 8 ∧ ∃ a2, S.FR 535 x0 = some a2 ∧ isA S a2 21 ∧ vp_in x1 (S.N a2) ∧ ∃ a5, S.FR 536 x0 = some a5 ∧ isA S a5 26 ∧ vp_in x1 (S.N a5) ∧ ∃ a8, S.AR a5 x1.toNatClampNeg = some a8 ∧ isA S a8 21 ∧ vp_in (S.AI a2 x1.toNatClampNeg) (S.N a8) ∧ ∀ S11, S11 = S.setAI a8 ((S.AI a2 x1.toNatClampNeg).toNatClampNeg) x2 → ∃ a12, S11.FR 537 x0 = some a12 ∧ isA S11 a12 26 ∧ vp_in x1 (S11.N a12) ∧ ∃ a15, S11.AR a12 x1.toNatClampNeg = some a15 ∧ isA S11 a15 21 ∧ vp_in (S.AI a2 x1.toNatClampNeg) (S11.N a15) ∧ ∀ S18, S18 = S11.setAI a15 ((S.AI a2 x1.toNatClampNeg).toNatClampNeg) x3 → ∃ a19, S18.FR 538 x0 = some a19 ∧ isA S18 a19 27 ∧ vp_in x1 (S18.N a19) ∧ ∃ a22, S18.AR a19 x1.toNatClampNeg = some a22 ∧ isA S18 a22 20 ∧ vp_in (S.AI a2 x1.toNatClampNeg) (S18.N a22) ∧ nc x4 ∧ ∀ S26, S26 = S18.setAI a22 ((S.AI a2 x1.toNatClampNeg).toNatClampNeg) x4 → ∃ a27, S26.FR 535 x0 = some a27 ∧ isA S26 a27 21 ∧ vp_in x1 (S26.N a27) ∧ vp_in x1 (S26.N a27) ∧ ∀ S31, S31 = S26.setAI a27 x1.toNatClampNeg ((S26.AI a27 x1.toNatClampNeg) + 1) → Φ S31
set_option maxHeartbeats 4000000 in
set_option maxRecDepth 100000 in
theorem bX8_adds_b0 {p : Program} {l : Launch} {e : Env} {s : State} {m : MethodId} {args : Array Value} {below : List Frame} {meth : Method} {c : Code} {G : Gw} {x0 : Nat} {x1 : Int32} {x2 : Int32} {x3 : Int32} {x4 : Int32} {Φ : Hp → Prop} (C0 : Mx p s m c cX8_adds 6 args yX8_adds.cls G) (Y : My meth none)  : ∀ (S : Hp) (H : Heap) (locs : List Loc) (ls : Array Slot), wX8_adds_b0 x0 x1 x2 x3 x4 Φ S → Ok G S H → va_S (Ab G.b) s.heap H locs → lv_has ls 6 [(0, .ref x0), (1, .int x1), (2, .int x2), (3, .int x3), (4, .int x4)] → W p l e rm_X8_adds s m args below meth c H locs 0 0 (MQ below (gQ G (PV Φ)) args s rm_X8_adds.cells rm_X8_adds.slots (Ab G.b)) (F0 m 0 ls []) := by
  intro S H locs ls h hO hS hl
  unfold wX8_adds_b0 at h
  refine lv_aload_n C0.1 C0.2.1 dX8_adds_0 rfl (lv_at hl 0 rfl) ?_
  obtain ⟨i1, h⟩ := h
  obtain ⟨a2, ea2, h⟩ := h
  refine g8_23 C0 hO i1 ea2 tb_1351 dX8_adds_1 ?_
  refine lv_iload_n C0.1 C0.2.1 dX8_adds_4 rfl (lv_at hl 1 rfl) ?_
  obtain ⟨i3, h⟩ := h
  obtain ⟨e4, h⟩ := h
  refine r_iald C0 hO i3 e4 dX8_adds_5 ?_
  refine lv_istore C0.1 C0.2.1 dX8_adds_6 hl (by decide) rfl (fun ls hl => ?_)
  refine lv_aload_n C0.1 C0.2.1 dX8_adds_8 rfl (lv_at hl 1 rfl) ?_
  obtain ⟨a5, ea5, h⟩ := h
  refine g8_24 C0 hO i1 ea5 tb_1352 dX8_adds_9 ?_
  refine lv_iload_n C0.1 C0.2.1 dX8_adds_12 rfl (lv_at hl 2 rfl) ?_
  obtain ⟨i6, h⟩ := h
  obtain ⟨e7, a8, ea8, h⟩ := h
  refine r_oald26 C0 hO i6 e7 dX8_adds_13 ?_
  rw [ea8]
  change W _ _ _ _ _ _ _ _ _ _ _ _ _ _ _ (F0 _ _ _ (.ref a8 :: _))
  refine lv_iload C0.1 C0.2.1 dX8_adds_14 (lv_at hl 0 rfl) ?_
  refine lv_iload_n C0.1 C0.2.1 dX8_adds_16 rfl (lv_at hl 3 rfl) ?_
  obtain ⟨i9, h⟩ := h
  obtain ⟨e10, h⟩ := h
  refine r_iast C0 hO hS i9 e10 dX8_adds_17 (fun H locs hO hS => ?_)
  have h := h _ rfl
  refine lv_aload_n C0.1 C0.2.1 dX8_adds_18 rfl (lv_at hl 1 rfl) ?_
  obtain ⟨a12, ea12, h⟩ := h
  refine g8_25 C0 hO (sA_AI i1) ea12 tb_1353 dX8_adds_19 ?_
  refine lv_iload_n C0.1 C0.2.1 dX8_adds_22 rfl (lv_at hl 2 rfl) ?_
  obtain ⟨i13, h⟩ := h
  obtain ⟨e14, a15, ea15, h⟩ := h
  refine r_oald26 C0 hO i13 e14 dX8_adds_23 ?_
  rw [ea15]
  change W _ _ _ _ _ _ _ _ _ _ _ _ _ _ _ (F0 _ _ _ (.ref a15 :: _))
  refine lv_iload C0.1 C0.2.1 dX8_adds_24 (lv_at hl 0 rfl) ?_
  refine lv_iload_n C0.1 C0.2.1 dX8_adds_26 rfl (lv_at hl 4 rfl) ?_
  obtain ⟨i16, h⟩ := h
  obtain ⟨e17, h⟩ := h
  refine r_iast C0 hO hS i16 e17 dX8_adds_27 (fun H locs hO hS => ?_)
  have h := h _ rfl
  refine lv_aload_n C0.1 C0.2.1 dX8_adds_28 rfl (lv_at hl 1 rfl) ?_
  obtain ⟨a19, ea19, h⟩ := h
  refine g8_26 C0 hO (sA_AI (sA_AI i1)) ea19 tb_1354 dX8_adds_29 ?_
  refine lv_iload_n C0.1 C0.2.1 dX8_adds_32 rfl (lv_at hl 2 rfl) ?_
  obtain ⟨i20, h⟩ := h
  obtain ⟨e21, a22, ea22, h⟩ := h
  refine r_oald27 C0 hO i20 e21 dX8_adds_33 ?_
  rw [ea22]
  change W _ _ _ _ _ _ _ _ _ _ _ _ _ _ _ (F0 _ _ _ (.ref a22 :: _))
  refine lv_iload C0.1 C0.2.1 dX8_adds_34 (lv_at hl 0 rfl) ?_
  refine lv_iload C0.1 C0.2.1 dX8_adds_36 (lv_at hl 5 rfl) ?_
  obtain ⟨i23, h⟩ := h
  obtain ⟨e24, h⟩ := h
  obtain ⟨e25, h⟩ := h
  refine r_cast C0 hO hS i23 e24 e25 dX8_adds_38 (fun H locs hO hS => ?_)
  have h := h _ rfl
  refine lv_aload_n C0.1 C0.2.1 dX8_adds_39 rfl (lv_at hl 1 rfl) ?_
  obtain ⟨a27, ea27, h⟩ := h
  refine g8_23 C0 hO (sA_AI (sA_AI (sA_AI i1))) ea27 tb_1351 dX8_adds_40 ?_
  refine lv_iload_n C0.1 C0.2.1 dX8_adds_43 rfl (lv_at hl 2 rfl) ?_
  refine lv_dup2_11 C0.1 C0.2.1 dX8_adds_44 rfl rfl ?_
  obtain ⟨i28, h⟩ := h
  obtain ⟨e29, h⟩ := h
  refine r_iald C0 hO i28 e29 dX8_adds_45 ?_
  refine lv_iconst (v := 1) C0.1 C0.2.1 dX8_adds_46 (by decide) ?_
  refine lv_iadd C0.1 C0.2.1 dX8_adds_47 ?_
  obtain ⟨e30, h⟩ := h
  refine r_iast C0 hO hS i28 e30 dX8_adds_48 (fun H locs hO hS => ?_)
  have h := h _ rfl
  exact e_V C0 Y hO hS h (Nat.le_refl _) (Nat.le_refl _) dX8_adds_49
def wX8_adds (S : Hp) (x0 : Nat) (x1 : Int32) (x2 : Int32) (x3 : Int32) (x4 : Int32) (Φ : Hp → Prop) : Prop := wX8_adds_b0 x0 x1 x2 x3 x4 Φ S
set_option maxRecDepth 100000 in
theorem mX8_adds {l : Launch} {G : Gw} {S : Hp} {x0 : Nat} {x1 : Int32} {x2 : Int32} {x3 : Int32} {x4 : Int32} {Φ : Hp → Prop} (h : wX8_adds S x0 x1 x2 x3 x4 Φ) : gM l yX8_adds cX8_adds 6 none rm_X8_adds [.ref x0, .int x1, .int x2, .int x3, .int x4] G S (PV Φ) := by
  unfold gM
  refine Met.ofW (cc := cX8_adds) (maxL := 6) (ret := none) (by decide) rfl ?_
  intro p e s m args below meth c s₁ B hml hv
  obtain ⟨rfl, hw⟩ := hv
  obtain ⟨C0, Y, hO⟩ := mx_of B hml hw
  have hS : va_S (Ab G.b) s.heap s.heap [] := va_S.rf
  have hl := lv_entry ([.ref x0, .int x1, .int x2, .int x3, .int x4]) (n := 6) (Nat.le_of_ble_eq_true rfl)
  rw [lg_entry_eq]
  generalize (lg_sl ([.ref x0, .int x1, .int x2, .int x3, .int x4]) ++ List.replicate (6 - (lg_sl ([.ref x0, .int x1, .int x2, .int x3, .int x4])).length) Slot.unset).toArray = ls at hl ⊢
  have hl : lv_has ls 6 [(0, .ref x0), (1, .int x1), (2, .int x2), (3, .int x3), (4, .int x4)] := hl
  exact bX8_adds_b0 C0 Y S _ _ _ h hO hS hl

def rm_X8_isLaw : Room := { frames := 0, cells := 0, slots := 0, locals := 0 }
def wX8_isLaw_b12 (x0 : Int32) (Φ : Hp → Int32 → Prop) (S : Hp) : Prop := Φ S 1
set_option maxHeartbeats 4000000 in
set_option maxRecDepth 100000 in
theorem bX8_isLaw_b12 {p : Program} {l : Launch} {e : Env} {s : State} {m : MethodId} {args : Array Value} {below : List Frame} {meth : Method} {c : Code} {G : Gw} {x0 : Int32} {Φ : Hp → Int32 → Prop} (C0 : Mx p s m c cX8_isLaw 1 args yX8_isLaw.cls G) (Y : My meth (some .boolean))  : ∀ (S : Hp) (H : Heap) (locs : List Loc) (ls : Array Slot), wX8_isLaw_b12 x0 Φ S → Ok G S H → va_S (Ab G.b) s.heap H locs → lv_has ls 1 [(0, .int x0)] → W p l e rm_X8_isLaw s m args below meth c H locs 0 0 (MQ below (gQ G (PI Φ)) args s rm_X8_isLaw.cells rm_X8_isLaw.slots (Ab G.b)) (F0 m 12 ls []) := by
  intro S H locs ls h hO hS hl
  unfold wX8_isLaw_b12 at h
  refine lv_iconst (v := 1) C0.1 C0.2.1 dX8_isLaw_12 (by decide) ?_
  refine lv_goto (tgt := 17) C0.1 C0.2.1 dX8_isLaw_13 (by decide) ?_
  exact e_Z C0 Y hO hS rfl h (Nat.le_refl _) (Nat.le_refl _) dX8_isLaw_17
def wX8_isLaw_b0 (x0 : Int32) (Φ : Hp → Int32 → Prop) (S : Hp) : Prop := ((x0 = 117 → wX8_isLaw_b12 x0 Φ S) ∧ (¬ (x0 = 117) → ((¬ x0 = 112 → Φ S 0) ∧ (x0 = 112 → wX8_isLaw_b12 x0 Φ S))))
set_option maxHeartbeats 4000000 in
set_option maxRecDepth 100000 in
theorem bX8_isLaw_b0 {p : Program} {l : Launch} {e : Env} {s : State} {m : MethodId} {args : Array Value} {below : List Frame} {meth : Method} {c : Code} {G : Gw} {x0 : Int32} {Φ : Hp → Int32 → Prop} (C0 : Mx p s m c cX8_isLaw 1 args yX8_isLaw.cls G) (Y : My meth (some .boolean))  : ∀ (S : Hp) (H : Heap) (locs : List Loc) (ls : Array Slot), wX8_isLaw_b0 x0 Φ S → Ok G S H → va_S (Ab G.b) s.heap H locs → lv_has ls 1 [(0, .int x0)] → W p l e rm_X8_isLaw s m args below meth c H locs 0 0 (MQ below (gQ G (PI Φ)) args s rm_X8_isLaw.cells rm_X8_isLaw.slots (Ab G.b)) (F0 m 0 ls []) := by
  intro S H locs ls h hO hS hl
  unfold wX8_isLaw_b0 at h
  refine lv_iload_n C0.1 C0.2.1 dX8_isLaw_0 rfl (lv_at hl 0 rfl) ?_
  refine lv_bipush (v := 117) C0.1 C0.2.1 dX8_isLaw_1 (by decide) ?_
  refine lv_icmp_eq (tgt := 12) C0.1 C0.2.1 dX8_isLaw_3 (by decide) (fun c1 => ?_) (fun c1 => ?_)
  · have h := h.1 c1
    exact bX8_isLaw_b12 C0 Y _ _ _ _ h hO hS (lv_sub hl [0] rfl)
  · have h := h.2 c1
    refine lv_iload_n C0.1 C0.2.1 dX8_isLaw_6 rfl (lv_at hl 0 rfl) ?_
    refine lv_bipush (v := 112) C0.1 C0.2.1 dX8_isLaw_7 (by decide) ?_
    refine lv_icmp_ne (tgt := 16) C0.1 C0.2.1 dX8_isLaw_9 (by decide) (fun c2 => ?_) (fun c2 => ?_)
    · have h := h.1 c2
      refine lv_iconst (v := 0) C0.1 C0.2.1 dX8_isLaw_16 (by decide) ?_
      exact e_Z C0 Y hO hS rfl h (Nat.le_refl _) (Nat.le_refl _) dX8_isLaw_17
    · have h := h.2 c2
      exact bX8_isLaw_b12 C0 Y _ _ _ _ h hO hS (lv_sub hl [0] rfl)
def wX8_isLaw (S : Hp) (x0 : Int32) (Φ : Hp → Int32 → Prop) : Prop := wX8_isLaw_b0 x0 Φ S
set_option maxRecDepth 100000 in
theorem mX8_isLaw {l : Launch} {G : Gw} {S : Hp} {x0 : Int32} {Φ : Hp → Int32 → Prop} (h : wX8_isLaw S x0 Φ) : gM l yX8_isLaw cX8_isLaw 1 (some .boolean) rm_X8_isLaw [.int x0] G S (PI Φ) := by
  unfold gM
  refine Met.ofW (cc := cX8_isLaw) (maxL := 1) (ret := (some .boolean)) (by decide) rfl ?_
  intro p e s m args below meth c s₁ B hml hv
  obtain ⟨rfl, hw⟩ := hv
  obtain ⟨C0, Y, hO⟩ := mx_of B hml hw
  have hS : va_S (Ab G.b) s.heap s.heap [] := va_S.rf
  have hl := lv_entry ([.int x0]) (n := 1) (Nat.le_of_ble_eq_true rfl)
  rw [lg_entry_eq]
  generalize (lg_sl ([.int x0]) ++ List.replicate (1 - (lg_sl ([.int x0])).length) Slot.unset).toArray = ls at hl ⊢
  have hl : lv_has ls 1 [(0, .int x0)] := hl
  exact bX8_isLaw_b0 C0 Y S _ _ _ h hO hS hl

def rm_X8_segment : Room := { frames := 2, cells := 0, slots := 0, locals := 43 }
def wX8_segment_b84 (x0 : Nat) (x1 : Int32) (x2 : Int32) (x3 : Int32) (x4 : Int32) (Φ : Hp → Int32 → Prop) (S : Hp) (z0 : Nat) (z1 : Int32) : Prop := isA S z0 8 ∧ wX8_isThrown S z0 z1 3 (fun S1 r2 => ((r2 = 0 → isA S1 x0 8 ∧ wX8_adds S1 x0 x1 x2 x3 x4 (fun S5 => isA S5 x0 8 ∧ wX8_partsOf S5 x0 x1 (fun S7 r8 => Φ S7 r8))) ∧ (¬ (r2 = 0) → Φ S1 0)))
set_option maxHeartbeats 4000000 in
set_option maxRecDepth 100000 in
theorem bX8_segment_b84 {p : Program} {l : Launch} {e : Env} {s : State} {m : MethodId} {args : Array Value} {below : List Frame} {meth : Method} {c : Code} {G : Gw} {x0 : Nat} {x1 : Int32} {x2 : Int32} {x3 : Int32} {x4 : Int32} {Φ : Hp → Int32 → Prop} (C0 : Mx p s m c cX8_segment 6 args yX8_segment.cls G) (Y : My meth (some .int))  : ∀ (S : Hp) (z0 : Nat) (z1 : Int32) (H : Heap) (locs : List Loc) (ls : Array Slot), wX8_segment_b84 x0 x1 x2 x3 x4 Φ S z0 z1 → Ok G S H → va_S (Ab G.b) s.heap H locs → lv_has ls 6 [(0, .ref x0), (1, .int x1), (2, .int x2), (3, .int x3), (4, .int x4)] → W p l e rm_X8_segment s m args below meth c H locs 0 0 (MQ below (gQ G (PI Φ)) args s rm_X8_segment.cells rm_X8_segment.slots (Ab G.b)) (F0 m 84 ls [.int z1, .ref z0]) := by
  intro S z0 z1 H locs ls h hO hS hl
  unfold wX8_segment_b84 at h
  refine lv_iconst (v := 3) C0.1 C0.2.1 dX8_segment_84 (by decide) ?_
  obtain ⟨i3, h⟩ := h
  refine c_V C0 hO hS (mX8_isThrown h) i3 (by decide) rfl rfl tb_1451 tb_1453 tb_37 tb_81 tb_1454 hd_X8_isThrown rfl ⟨⟨by decide, by decide⟩, by decide, by decide⟩ hl.1 rfl (Nat.le_of_ble_eq_true rfl) dX8_segment_85 (kI (fun r2 S1 H locs h hO hS => ?_))
  refine lv_if_eq (tgt := 93) C0.1 C0.2.1 dX8_segment_88 (by decide) (fun c4 => ?_) (fun c4 => ?_)
  · have h := h.1 c4
    refine lv_aload_n C0.1 C0.2.1 dX8_segment_93 rfl (lv_at hl 0 rfl) ?_
    refine lv_iload_n C0.1 C0.2.1 dX8_segment_94 rfl (lv_at hl 1 rfl) ?_
    refine lv_iload_n C0.1 C0.2.1 dX8_segment_95 rfl (lv_at hl 2 rfl) ?_
    refine lv_iload_n C0.1 C0.2.1 dX8_segment_96 rfl (lv_at hl 3 rfl) ?_
    refine lv_iload C0.1 C0.2.1 dX8_segment_97 (lv_at hl 4 rfl) ?_
    obtain ⟨i6, h⟩ := h
    refine c_V C0 hO hS (mX8_adds h) i6 (by decide) rfl rfl tb_1650 tb_1652 tb_61 tb_81 tb_1653 hd_X8_adds rfl ⟨⟨by decide, by decide⟩, by decide, by decide⟩ hl.1 rfl (Nat.le_of_ble_eq_true rfl) dX8_segment_99 (kV (fun S5 H locs h hO hS => ?_))
    refine lv_aload_n C0.1 C0.2.1 dX8_segment_102 rfl (lv_at hl 0 rfl) ?_
    refine lv_iload_n C0.1 C0.2.1 dX8_segment_103 rfl (lv_at hl 1 rfl) ?_
    obtain ⟨i9, h⟩ := h
    refine c_V C0 hO hS (mX8_partsOf h) i9 (by decide) rfl rfl tb_1646 tb_1648 tb_60 tb_81 tb_1649 hd_X8_partsOf rfl ⟨⟨by decide, by decide⟩, by decide, by decide⟩ hl.1 rfl (Nat.le_of_ble_eq_true rfl) dX8_segment_104 (kI (fun r8 S7 H locs h hO hS => ?_))
    exact e_I C0 Y hO hS h (Nat.le_refl _) (Nat.le_refl _) dX8_segment_107
  · have h := h.2 c4
    refine lv_iconst (v := 0) C0.1 C0.2.1 dX8_segment_91 (by decide) ?_
    exact e_I C0 Y hO hS h (Nat.le_refl _) (Nat.le_refl _) dX8_segment_92
def wX8_segment_b59 (x0 : Nat) (x1 : Int32) (x2 : Int32) (x3 : Int32) (x4 : Int32) (Φ : Hp → Int32 → Prop) (S : Hp) (z0 : Nat) (z1 : Int32) : Prop := isA S z0 8 ∧ wX8_isThrown S z0 z1 2 (fun S1 r2 => ((¬ r2 = 0 → Φ S1 0) ∧ (r2 = 0 → isA S1 x0 8 ∧ wX8_partsOf S1 x0 x1 (fun S5 r6 => (((r6 + x2) ≤ 24 → wX8_segment_b84 x0 x1 x2 x3 x4 Φ S5 x0 0) ∧ (¬ ((r6 + x2) ≤ 24) → wX8_segment_b84 x0 x1 x2 x3 x4 Φ S5 x0 1))))))
set_option maxHeartbeats 4000000 in
set_option maxRecDepth 100000 in
theorem bX8_segment_b59 {p : Program} {l : Launch} {e : Env} {s : State} {m : MethodId} {args : Array Value} {below : List Frame} {meth : Method} {c : Code} {G : Gw} {x0 : Nat} {x1 : Int32} {x2 : Int32} {x3 : Int32} {x4 : Int32} {Φ : Hp → Int32 → Prop} (C0 : Mx p s m c cX8_segment 6 args yX8_segment.cls G) (Y : My meth (some .int))  : ∀ (S : Hp) (z0 : Nat) (z1 : Int32) (H : Heap) (locs : List Loc) (ls : Array Slot), wX8_segment_b59 x0 x1 x2 x3 x4 Φ S z0 z1 → Ok G S H → va_S (Ab G.b) s.heap H locs → lv_has ls 6 [(0, .ref x0), (1, .int x1), (2, .int x2), (3, .int x3), (4, .int x4)] → W p l e rm_X8_segment s m args below meth c H locs 0 0 (MQ below (gQ G (PI Φ)) args s rm_X8_segment.cells rm_X8_segment.slots (Ab G.b)) (F0 m 59 ls [.int z1, .ref z0]) := by
  intro S z0 z1 H locs ls h hO hS hl
  unfold wX8_segment_b59 at h
  refine lv_iconst (v := 2) C0.1 C0.2.1 dX8_segment_59 (by decide) ?_
  obtain ⟨i3, h⟩ := h
  refine c_V C0 hO hS (mX8_isThrown h) i3 (by decide) rfl rfl tb_1451 tb_1453 tb_37 tb_81 tb_1454 hd_X8_isThrown rfl ⟨⟨by decide, by decide⟩, by decide, by decide⟩ hl.1 rfl (Nat.le_of_ble_eq_true rfl) dX8_segment_60 (kI (fun r2 S1 H locs h hO hS => ?_))
  refine lv_if_ne (tgt := 91) C0.1 C0.2.1 dX8_segment_63 (by decide) (fun c4 => ?_) (fun c4 => ?_)
  · have h := h.1 c4
    refine lv_iconst (v := 0) C0.1 C0.2.1 dX8_segment_91 (by decide) ?_
    exact e_I C0 Y hO hS h (Nat.le_refl _) (Nat.le_refl _) dX8_segment_92
  · have h := h.2 c4
    refine lv_aload_n C0.1 C0.2.1 dX8_segment_66 rfl (lv_at hl 0 rfl) ?_
    refine lv_aload_n C0.1 C0.2.1 dX8_segment_67 rfl (lv_at hl 0 rfl) ?_
    refine lv_iload_n C0.1 C0.2.1 dX8_segment_68 rfl (lv_at hl 1 rfl) ?_
    obtain ⟨i7, h⟩ := h
    refine c_V C0 hO hS (mX8_partsOf h) i7 (by decide) rfl rfl tb_1646 tb_1648 tb_60 tb_81 tb_1649 hd_X8_partsOf rfl ⟨⟨by decide, by decide⟩, by decide, by decide⟩ hl.1 rfl (Nat.le_of_ble_eq_true rfl) dX8_segment_69 (kI (fun r6 S5 H locs h hO hS => ?_))
    refine lv_iload_n C0.1 C0.2.1 dX8_segment_72 rfl (lv_at hl 2 rfl) ?_
    refine lv_iadd C0.1 C0.2.1 dX8_segment_73 ?_
    refine lv_bipush (v := 24) C0.1 C0.2.1 dX8_segment_74 (by decide) ?_
    refine lv_icmp_le (tgt := 83) C0.1 C0.2.1 dX8_segment_76 (by decide) (fun c8 => ?_) (fun c8 => ?_)
    · have h := h.1 c8
      refine lv_iconst (v := 0) C0.1 C0.2.1 dX8_segment_83 (by decide) ?_
      exact bX8_segment_b84 C0 Y _ _ _ _ _ _ h hO hS (lv_sub hl [0, 1, 2, 3, 4] rfl)
    · have h := h.2 c8
      refine lv_iconst (v := 1) C0.1 C0.2.1 dX8_segment_79 (by decide) ?_
      refine lv_goto (tgt := 84) C0.1 C0.2.1 dX8_segment_80 (by decide) ?_
      exact bX8_segment_b84 C0 Y _ _ _ _ _ _ h hO hS (lv_sub hl [0, 1, 2, 3, 4] rfl)
def wX8_segment_b33 (x0 : Nat) (x1 : Int32) (x2 : Int32) (x3 : Int32) (x4 : Int32) (Φ : Hp → Int32 → Prop) (S : Hp) (z0 : Int32) : Prop := isA S x0 8 ∧ wX8_isNoCam S x0 x1 (fun S1 r2 => isA S1 x0 8 ∧ wX8_isThrown S1 x0 r2 1 (fun S4 r5 => ((¬ r5 = 0 → Φ S4 0) ∧ (r5 = 0 → ((¬ z0 = 0 → wX8_segment_b59 x0 x1 x2 x3 x4 Φ S4 x0 0) ∧ (z0 = 0 → wX8_segment_b59 x0 x1 x2 x3 x4 Φ S4 x0 1))))))
set_option maxHeartbeats 4000000 in
set_option maxRecDepth 100000 in
theorem bX8_segment_b33 {p : Program} {l : Launch} {e : Env} {s : State} {m : MethodId} {args : Array Value} {below : List Frame} {meth : Method} {c : Code} {G : Gw} {x0 : Nat} {x1 : Int32} {x2 : Int32} {x3 : Int32} {x4 : Int32} {Φ : Hp → Int32 → Prop} (C0 : Mx p s m c cX8_segment 6 args yX8_segment.cls G) (Y : My meth (some .int))  : ∀ (S : Hp) (z0 : Int32) (H : Heap) (locs : List Loc) (ls : Array Slot), wX8_segment_b33 x0 x1 x2 x3 x4 Φ S z0 → Ok G S H → va_S (Ab G.b) s.heap H locs → lv_has ls 6 [(0, .ref x0), (1, .int x1), (2, .int x2), (3, .int x3), (4, .int x4)] → W p l e rm_X8_segment s m args below meth c H locs 0 0 (MQ below (gQ G (PI Φ)) args s rm_X8_segment.cells rm_X8_segment.slots (Ab G.b)) (F0 m 33 ls [.int z0]) := by
  intro S z0 H locs ls h hO hS hl
  unfold wX8_segment_b33 at h
  refine lv_istore C0.1 C0.2.1 dX8_segment_33 hl (by decide) rfl (fun ls hl => ?_)
  refine lv_aload_n C0.1 C0.2.1 dX8_segment_35 rfl (lv_at hl 1 rfl) ?_
  refine lv_aload_n C0.1 C0.2.1 dX8_segment_36 rfl (lv_at hl 1 rfl) ?_
  refine lv_iload_n C0.1 C0.2.1 dX8_segment_37 rfl (lv_at hl 2 rfl) ?_
  obtain ⟨i3, h⟩ := h
  refine c_V C0 hO hS (mX8_isNoCam h) i3 (by decide) rfl rfl tb_1642 tb_1644 tb_59 tb_81 tb_1645 hd_X8_isNoCam rfl ⟨⟨by decide, by decide⟩, by decide, by decide⟩ hl.1 rfl (Nat.le_of_ble_eq_true rfl) dX8_segment_38 (kI (fun r2 S1 H locs h hO hS => ?_))
  refine lv_iconst (v := 1) C0.1 C0.2.1 dX8_segment_41 (by decide) ?_
  obtain ⟨i6, h⟩ := h
  refine c_V C0 hO hS (mX8_isThrown h) i6 (by decide) rfl rfl tb_1451 tb_1453 tb_37 tb_81 tb_1454 hd_X8_isThrown rfl ⟨⟨by decide, by decide⟩, by decide, by decide⟩ hl.1 rfl (Nat.le_of_ble_eq_true rfl) dX8_segment_42 (kI (fun r5 S4 H locs h hO hS => ?_))
  refine lv_if_ne (tgt := 91) C0.1 C0.2.1 dX8_segment_45 (by decide) (fun c7 => ?_) (fun c7 => ?_)
  · have h := h.1 c7
    refine lv_iconst (v := 0) C0.1 C0.2.1 dX8_segment_91 (by decide) ?_
    exact e_I C0 Y hO hS h (Nat.le_refl _) (Nat.le_refl _) dX8_segment_92
  · have h := h.2 c7
    refine lv_aload_n C0.1 C0.2.1 dX8_segment_48 rfl (lv_at hl 1 rfl) ?_
    refine lv_iload C0.1 C0.2.1 dX8_segment_49 (lv_at hl 0 rfl) ?_
    refine lv_if_ne (tgt := 58) C0.1 C0.2.1 dX8_segment_51 (by decide) (fun c8 => ?_) (fun c8 => ?_)
    · have h := h.1 c8
      refine lv_iconst (v := 0) C0.1 C0.2.1 dX8_segment_58 (by decide) ?_
      exact bX8_segment_b59 C0 Y _ _ _ _ _ _ h hO hS (lv_sub hl [1, 2, 3, 4, 5] rfl)
    · have h := h.2 c8
      refine lv_iconst (v := 1) C0.1 C0.2.1 dX8_segment_54 (by decide) ?_
      refine lv_goto (tgt := 59) C0.1 C0.2.1 dX8_segment_55 (by decide) ?_
      exact bX8_segment_b59 C0 Y _ _ _ _ _ _ h hO hS (lv_sub hl [1, 2, 3, 4, 5] rfl)
def wX8_segment_b32 (x0 : Nat) (x1 : Int32) (x2 : Int32) (x3 : Int32) (x4 : Int32) (Φ : Hp → Int32 → Prop) (S : Hp) : Prop := wX8_segment_b33 x0 x1 x2 x3 x4 Φ S 0
set_option maxHeartbeats 4000000 in
set_option maxRecDepth 100000 in
theorem bX8_segment_b32 {p : Program} {l : Launch} {e : Env} {s : State} {m : MethodId} {args : Array Value} {below : List Frame} {meth : Method} {c : Code} {G : Gw} {x0 : Nat} {x1 : Int32} {x2 : Int32} {x3 : Int32} {x4 : Int32} {Φ : Hp → Int32 → Prop} (C0 : Mx p s m c cX8_segment 6 args yX8_segment.cls G) (Y : My meth (some .int))  : ∀ (S : Hp) (H : Heap) (locs : List Loc) (ls : Array Slot), wX8_segment_b32 x0 x1 x2 x3 x4 Φ S → Ok G S H → va_S (Ab G.b) s.heap H locs → lv_has ls 6 [(0, .ref x0), (1, .int x1), (2, .int x2), (3, .int x3), (4, .int x4)] → W p l e rm_X8_segment s m args below meth c H locs 0 0 (MQ below (gQ G (PI Φ)) args s rm_X8_segment.cells rm_X8_segment.slots (Ab G.b)) (F0 m 32 ls []) := by
  intro S H locs ls h hO hS hl
  unfold wX8_segment_b32 at h
  refine lv_iconst (v := 0) C0.1 C0.2.1 dX8_segment_32 (by decide) ?_
  exact bX8_segment_b33 C0 Y _ _ _ _ _ h hO hS (lv_sub hl [0, 1, 2, 3, 4] rfl)
def wX8_segment_b0 (x0 : Nat) (x1 : Int32) (x2 : Int32) (x3 : Int32) (x4 : Int32) (Φ : Hp → Int32 → Prop) (S : Hp) : Prop := wX8_isIn S x2 1 24 (fun S1 r2 => ((r2 = 0 → wX8_segment_b32 x0 x1 x2 x3 x4 Φ S1) ∧ (¬ (r2 = 0) → wX8_isIn S1 x3 0 99 (fun S4 r5 => ((r5 = 0 → wX8_segment_b32 x0 x1 x2 x3 x4 Φ S4) ∧ (¬ (r5 = 0) → wX8_isLaw S4 x4 (fun S7 r8 => ((r8 = 0 → wX8_segment_b32 x0 x1 x2 x3 x4 Φ S7) ∧ (¬ (r8 = 0) → wX8_segment_b33 x0 x1 x2 x3 x4 Φ S7 1)))))))))
set_option maxHeartbeats 4000000 in
set_option maxRecDepth 100000 in
theorem bX8_segment_b0 {p : Program} {l : Launch} {e : Env} {s : State} {m : MethodId} {args : Array Value} {below : List Frame} {meth : Method} {c : Code} {G : Gw} {x0 : Nat} {x1 : Int32} {x2 : Int32} {x3 : Int32} {x4 : Int32} {Φ : Hp → Int32 → Prop} (C0 : Mx p s m c cX8_segment 6 args yX8_segment.cls G) (Y : My meth (some .int))  : ∀ (S : Hp) (H : Heap) (locs : List Loc) (ls : Array Slot), wX8_segment_b0 x0 x1 x2 x3 x4 Φ S → Ok G S H → va_S (Ab G.b) s.heap H locs → lv_has ls 6 [(0, .ref x0), (1, .int x1), (2, .int x2), (3, .int x3), (4, .int x4)] → W p l e rm_X8_segment s m args below meth c H locs 0 0 (MQ below (gQ G (PI Φ)) args s rm_X8_segment.cells rm_X8_segment.slots (Ab G.b)) (F0 m 0 ls []) := by
  intro S H locs ls h hO hS hl
  unfold wX8_segment_b0 at h
  refine lv_iload_n C0.1 C0.2.1 dX8_segment_0 rfl (lv_at hl 2 rfl) ?_
  refine lv_iconst (v := 1) C0.1 C0.2.1 dX8_segment_1 (by decide) ?_
  refine lv_bipush (v := 24) C0.1 C0.2.1 dX8_segment_2 (by decide) ?_
  refine c_S C0 hO hS (mX8_isIn h) tb_1463 tb_1464 tb_81 tb_1465 hd_X8_isIn rfl ⟨⟨by decide, by decide⟩, by decide, by decide⟩ hl.1 rfl (Nat.le_of_ble_eq_true rfl) dX8_segment_4 (kI (fun r2 S1 H locs h hO hS => ?_))
  refine lv_if_eq (tgt := 32) C0.1 C0.2.1 dX8_segment_7 (by decide) (fun c3 => ?_) (fun c3 => ?_)
  · have h := h.1 c3
    exact bX8_segment_b32 C0 Y _ _ _ _ h hO hS (lv_sub hl [0, 1, 2, 3, 4] rfl)
  · have h := h.2 c3
    refine lv_iload_n C0.1 C0.2.1 dX8_segment_10 rfl (lv_at hl 3 rfl) ?_
    refine lv_iconst (v := 0) C0.1 C0.2.1 dX8_segment_11 (by decide) ?_
    refine lv_bipush (v := 99) C0.1 C0.2.1 dX8_segment_12 (by decide) ?_
    refine c_S C0 hO hS (mX8_isIn h) tb_1463 tb_1464 tb_81 tb_1465 hd_X8_isIn rfl ⟨⟨by decide, by decide⟩, by decide, by decide⟩ hl.1 rfl (Nat.le_of_ble_eq_true rfl) dX8_segment_14 (kI (fun r5 S4 H locs h hO hS => ?_))
    refine lv_if_eq (tgt := 32) C0.1 C0.2.1 dX8_segment_17 (by decide) (fun c6 => ?_) (fun c6 => ?_)
    · have h := h.1 c6
      exact bX8_segment_b32 C0 Y _ _ _ _ h hO hS (lv_sub hl [0, 1, 2, 3, 4] rfl)
    · have h := h.2 c6
      refine lv_iload C0.1 C0.2.1 dX8_segment_20 (lv_at hl 4 rfl) ?_
      refine c_S C0 hO hS (mX8_isLaw h) tb_1639 tb_1640 tb_81 tb_1641 hd_X8_isLaw rfl ⟨⟨by decide, by decide⟩, by decide, by decide⟩ hl.1 rfl (Nat.le_of_ble_eq_true rfl) dX8_segment_22 (kI (fun r8 S7 H locs h hO hS => ?_))
      refine lv_if_eq (tgt := 32) C0.1 C0.2.1 dX8_segment_25 (by decide) (fun c9 => ?_) (fun c9 => ?_)
      · have h := h.1 c9
        exact bX8_segment_b32 C0 Y _ _ _ _ h hO hS (lv_sub hl [0, 1, 2, 3, 4] rfl)
      · have h := h.2 c9
        refine lv_iconst (v := 1) C0.1 C0.2.1 dX8_segment_28 (by decide) ?_
        refine lv_goto (tgt := 33) C0.1 C0.2.1 dX8_segment_29 (by decide) ?_
        exact bX8_segment_b33 C0 Y _ _ _ _ _ h hO hS (lv_sub hl [0, 1, 2, 3, 4] rfl)
def wX8_segment (S : Hp) (x0 : Nat) (x1 : Int32) (x2 : Int32) (x3 : Int32) (x4 : Int32) (Φ : Hp → Int32 → Prop) : Prop := wX8_segment_b0 x0 x1 x2 x3 x4 Φ S
set_option maxRecDepth 100000 in
theorem mX8_segment {l : Launch} {G : Gw} {S : Hp} {x0 : Nat} {x1 : Int32} {x2 : Int32} {x3 : Int32} {x4 : Int32} {Φ : Hp → Int32 → Prop} (h : wX8_segment S x0 x1 x2 x3 x4 Φ) : gM l yX8_segment cX8_segment 6 (some .int) rm_X8_segment [.ref x0, .int x1, .int x2, .int x3, .int x4] G S (PI Φ) := by
  unfold gM
  refine Met.ofW (cc := cX8_segment) (maxL := 6) (ret := (some .int)) (by decide) rfl ?_
  intro p e s m args below meth c s₁ B hml hv
  obtain ⟨rfl, hw⟩ := hv
  obtain ⟨C0, Y, hO⟩ := mx_of B hml hw
  have hS : va_S (Ab G.b) s.heap s.heap [] := va_S.rf
  have hl := lv_entry ([.ref x0, .int x1, .int x2, .int x3, .int x4]) (n := 6) (Nat.le_of_ble_eq_true rfl)
  rw [lg_entry_eq]
  generalize (lg_sl ([.ref x0, .int x1, .int x2, .int x3, .int x4]) ++ List.replicate (6 - (lg_sl ([.ref x0, .int x1, .int x2, .int x3, .int x4])).length) Slot.unset).toArray = ls at hl ⊢
  have hl : lv_has ls 6 [(0, .ref x0), (1, .int x1), (2, .int x2), (3, .int x3), (4, .int x4)] := hl
  exact bX8_segment_b0 C0 Y S _ _ _ h hO hS hl

def rm_X8_clear : Room := { frames := 2, cells := 0, slots := 0, locals := 43 }
def wX8_clear_b0 (x0 : Nat) (x1 : Int32) (Φ : Hp → Int32 → Prop) (S : Hp) : Prop := isA S x0 8 ∧ wX8_isNoCam S x0 x1 (fun S1 r2 => isA S1 x0 8 ∧ wX8_isThrown S1 x0 r2 1 (fun S4 r5 => ((r5 = 0 → isA S4 x0 8 ∧ ∃ a9, S4.FR 535 x0 = some a9 ∧ isA S4 a9 21 ∧ vp_in x1 (S4.N a9) ∧ ∃ a12, S4.FR 535 x0 = some a12 ∧ isA S4 a12 21 ∧ vp_in x1 (S4.N a12) ∧ ∀ S15, S15 = S4.setAI a12 x1.toNatClampNeg 0 → Φ S15 (S4.AI a9 x1.toNatClampNeg)) ∧ (¬ (r5 = 0) → Φ S4 0))))
set_option maxHeartbeats 4000000 in
set_option maxRecDepth 100000 in
theorem bX8_clear_b0 {p : Program} {l : Launch} {e : Env} {s : State} {m : MethodId} {args : Array Value} {below : List Frame} {meth : Method} {c : Code} {G : Gw} {x0 : Nat} {x1 : Int32} {Φ : Hp → Int32 → Prop} (C0 : Mx p s m c cX8_clear 3 args yX8_clear.cls G) (Y : My meth (some .int))  : ∀ (S : Hp) (H : Heap) (locs : List Loc) (ls : Array Slot), wX8_clear_b0 x0 x1 Φ S → Ok G S H → va_S (Ab G.b) s.heap H locs → lv_has ls 3 [(0, .ref x0), (1, .int x1)] → W p l e rm_X8_clear s m args below meth c H locs 0 0 (MQ below (gQ G (PI Φ)) args s rm_X8_clear.cells rm_X8_clear.slots (Ab G.b)) (F0 m 0 ls []) := by
  intro S H locs ls h hO hS hl
  unfold wX8_clear_b0 at h
  refine lv_aload_n C0.1 C0.2.1 dX8_clear_0 rfl (lv_at hl 0 rfl) ?_
  refine lv_aload_n C0.1 C0.2.1 dX8_clear_1 rfl (lv_at hl 0 rfl) ?_
  refine lv_iload_n C0.1 C0.2.1 dX8_clear_2 rfl (lv_at hl 1 rfl) ?_
  obtain ⟨i3, h⟩ := h
  refine c_V C0 hO hS (mX8_isNoCam h) i3 (by decide) rfl rfl tb_1642 tb_1644 tb_59 tb_81 tb_1645 hd_X8_isNoCam rfl ⟨⟨by decide, by decide⟩, by decide, by decide⟩ hl.1 rfl (Nat.le_of_ble_eq_true rfl) dX8_clear_3 (kI (fun r2 S1 H locs h hO hS => ?_))
  refine lv_iconst (v := 1) C0.1 C0.2.1 dX8_clear_6 (by decide) ?_
  obtain ⟨i6, h⟩ := h
  refine c_V C0 hO hS (mX8_isThrown h) i6 (by decide) rfl rfl tb_1451 tb_1453 tb_37 tb_81 tb_1454 hd_X8_isThrown rfl ⟨⟨by decide, by decide⟩, by decide, by decide⟩ hl.1 rfl (Nat.le_of_ble_eq_true rfl) dX8_clear_7 (kI (fun r5 S4 H locs h hO hS => ?_))
  refine lv_if_eq (tgt := 15) C0.1 C0.2.1 dX8_clear_10 (by decide) (fun c7 => ?_) (fun c7 => ?_)
  · have h := h.1 c7
    refine lv_aload_n C0.1 C0.2.1 dX8_clear_15 rfl (lv_at hl 0 rfl) ?_
    obtain ⟨i8, h⟩ := h
    obtain ⟨a9, ea9, h⟩ := h
    refine g8_23 C0 hO i8 ea9 tb_1351 dX8_clear_16 ?_
    refine lv_iload_n C0.1 C0.2.1 dX8_clear_19 rfl (lv_at hl 1 rfl) ?_
    obtain ⟨i10, h⟩ := h
    obtain ⟨e11, h⟩ := h
    refine r_iald C0 hO i10 e11 dX8_clear_20 ?_
    refine lv_istore_n C0.1 C0.2.1 dX8_clear_21 rfl hl (by decide) rfl (fun ls hl => ?_)
    refine lv_aload_n C0.1 C0.2.1 dX8_clear_22 rfl (lv_at hl 1 rfl) ?_
    obtain ⟨a12, ea12, h⟩ := h
    refine g8_23 C0 hO i8 ea12 tb_1351 dX8_clear_23 ?_
    refine lv_iload_n C0.1 C0.2.1 dX8_clear_26 rfl (lv_at hl 2 rfl) ?_
    refine lv_iconst (v := 0) C0.1 C0.2.1 dX8_clear_27 (by decide) ?_
    obtain ⟨i13, h⟩ := h
    obtain ⟨e14, h⟩ := h
    refine r_iast C0 hO hS i13 e14 dX8_clear_28 (fun H locs hO hS => ?_)
    have h := h _ rfl
    refine lv_iload_n C0.1 C0.2.1 dX8_clear_29 rfl (lv_at hl 0 rfl) ?_
    exact e_I C0 Y hO hS h (Nat.le_refl _) (Nat.le_refl _) dX8_clear_30
  · have h := h.2 c7
    refine lv_iconst (v := 0) C0.1 C0.2.1 dX8_clear_13 (by decide) ?_
    exact e_I C0 Y hO hS h (Nat.le_refl _) (Nat.le_refl _) dX8_clear_14
def wX8_clear (S : Hp) (x0 : Nat) (x1 : Int32) (Φ : Hp → Int32 → Prop) : Prop := wX8_clear_b0 x0 x1 Φ S
set_option maxRecDepth 100000 in
theorem mX8_clear {l : Launch} {G : Gw} {S : Hp} {x0 : Nat} {x1 : Int32} {Φ : Hp → Int32 → Prop} (h : wX8_clear S x0 x1 Φ) : gM l yX8_clear cX8_clear 3 (some .int) rm_X8_clear [.ref x0, .int x1] G S (PI Φ) := by
  unfold gM
  refine Met.ofW (cc := cX8_clear) (maxL := 3) (ret := (some .int)) (by decide) rfl ?_
  intro p e s m args below meth c s₁ B hml hv
  obtain ⟨rfl, hw⟩ := hv
  obtain ⟨C0, Y, hO⟩ := mx_of B hml hw
  have hS : va_S (Ab G.b) s.heap s.heap [] := va_S.rf
  have hl := lv_entry ([.ref x0, .int x1]) (n := 3) (Nat.le_of_ble_eq_true rfl)
  rw [lg_entry_eq]
  generalize (lg_sl ([.ref x0, .int x1]) ++ List.replicate (3 - (lg_sl ([.ref x0, .int x1])).length) Slot.unset).toArray = ls at hl ⊢
  have hl : lv_has ls 3 [(0, .ref x0), (1, .int x1)] := hl
  exact bX8_clear_b0 C0 Y S _ _ _ h hO hS hl

def rm_X8_isNotWhole : Room := { frames := 2, cells := 0, slots := 0, locals := 43 }
def wX8_isNotWhole_b36 (x0 : Nat) (x1 : Int32) (Φ : Hp → Int32 → Prop) (S : Hp) : Prop := Φ S 1
set_option maxHeartbeats 4000000 in
set_option maxRecDepth 100000 in
theorem bX8_isNotWhole_b36 {p : Program} {l : Launch} {e : Env} {s : State} {m : MethodId} {args : Array Value} {below : List Frame} {meth : Method} {c : Code} {G : Gw} {x0 : Nat} {x1 : Int32} {Φ : Hp → Int32 → Prop} (C0 : Mx p s m c cX8_isNotWhole 2 args yX8_isNotWhole.cls G) (Y : My meth (some .boolean))  : ∀ (S : Hp) (H : Heap) (locs : List Loc) (ls : Array Slot), wX8_isNotWhole_b36 x0 x1 Φ S → Ok G S H → va_S (Ab G.b) s.heap H locs → lv_has ls 2 [(0, .ref x0), (1, .int x1)] → W p l e rm_X8_isNotWhole s m args below meth c H locs 0 0 (MQ below (gQ G (PI Φ)) args s rm_X8_isNotWhole.cells rm_X8_isNotWhole.slots (Ab G.b)) (F0 m 36 ls []) := by
  intro S H locs ls h hO hS hl
  unfold wX8_isNotWhole_b36 at h
  refine lv_iconst (v := 1) C0.1 C0.2.1 dX8_isNotWhole_36 (by decide) ?_
  refine lv_goto (tgt := 41) C0.1 C0.2.1 dX8_isNotWhole_37 (by decide) ?_
  exact e_Z C0 Y hO hS rfl h (Nat.le_refl _) (Nat.le_refl _) dX8_isNotWhole_41
def wX8_isNotWhole_b29 (x0 : Nat) (x1 : Int32) (Φ : Hp → Int32 → Prop) (S : Hp) (z0 : Nat) (z1 : Int32) : Prop := isA S z0 8 ∧ wX8_isThrown S z0 z1 2 (fun S1 r2 => ((r2 = 0 → Φ S1 0) ∧ (¬ (r2 = 0) → wX8_isNotWhole_b36 x0 x1 Φ S1)))
set_option maxHeartbeats 4000000 in
set_option maxRecDepth 100000 in
theorem bX8_isNotWhole_b29 {p : Program} {l : Launch} {e : Env} {s : State} {m : MethodId} {args : Array Value} {below : List Frame} {meth : Method} {c : Code} {G : Gw} {x0 : Nat} {x1 : Int32} {Φ : Hp → Int32 → Prop} (C0 : Mx p s m c cX8_isNotWhole 2 args yX8_isNotWhole.cls G) (Y : My meth (some .boolean))  : ∀ (S : Hp) (z0 : Nat) (z1 : Int32) (H : Heap) (locs : List Loc) (ls : Array Slot), wX8_isNotWhole_b29 x0 x1 Φ S z0 z1 → Ok G S H → va_S (Ab G.b) s.heap H locs → lv_has ls 2 [(0, .ref x0), (1, .int x1)] → W p l e rm_X8_isNotWhole s m args below meth c H locs 0 0 (MQ below (gQ G (PI Φ)) args s rm_X8_isNotWhole.cells rm_X8_isNotWhole.slots (Ab G.b)) (F0 m 29 ls [.int z1, .ref z0]) := by
  intro S z0 z1 H locs ls h hO hS hl
  unfold wX8_isNotWhole_b29 at h
  refine lv_iconst (v := 2) C0.1 C0.2.1 dX8_isNotWhole_29 (by decide) ?_
  obtain ⟨i3, h⟩ := h
  refine c_V C0 hO hS (mX8_isThrown h) i3 (by decide) rfl rfl tb_1451 tb_1453 tb_37 tb_81 tb_1454 hd_X8_isThrown rfl ⟨⟨by decide, by decide⟩, by decide, by decide⟩ hl.1 rfl (Nat.le_of_ble_eq_true rfl) dX8_isNotWhole_30 (kI (fun r2 S1 H locs h hO hS => ?_))
  refine lv_if_eq (tgt := 40) C0.1 C0.2.1 dX8_isNotWhole_33 (by decide) (fun c4 => ?_) (fun c4 => ?_)
  · have h := h.1 c4
    refine lv_iconst (v := 0) C0.1 C0.2.1 dX8_isNotWhole_40 (by decide) ?_
    exact e_Z C0 Y hO hS rfl h (Nat.le_refl _) (Nat.le_refl _) dX8_isNotWhole_41
  · have h := h.2 c4
    exact bX8_isNotWhole_b36 C0 Y _ _ _ _ h hO hS (lv_sub hl [0, 1] rfl)
def wX8_isNotWhole_b0 (x0 : Nat) (x1 : Int32) (Φ : Hp → Int32 → Prop) (S : Hp) : Prop := isA S x0 8 ∧ wX8_isNoCam S x0 x1 (fun S1 r2 => isA S1 x0 8 ∧ wX8_isThrown S1 x0 r2 1 (fun S4 r5 => ((¬ r5 = 0 → wX8_isNotWhole_b36 x0 x1 Φ S4) ∧ (r5 = 0 → isA S4 x0 8 ∧ wX8_partsOf S4 x0 x1 (fun S8 r9 => ((r9 = 24 → wX8_isNotWhole_b29 x0 x1 Φ S8 x0 0) ∧ (¬ (r9 = 24) → wX8_isNotWhole_b29 x0 x1 Φ S8 x0 1)))))))
set_option maxHeartbeats 4000000 in
set_option maxRecDepth 100000 in
theorem bX8_isNotWhole_b0 {p : Program} {l : Launch} {e : Env} {s : State} {m : MethodId} {args : Array Value} {below : List Frame} {meth : Method} {c : Code} {G : Gw} {x0 : Nat} {x1 : Int32} {Φ : Hp → Int32 → Prop} (C0 : Mx p s m c cX8_isNotWhole 2 args yX8_isNotWhole.cls G) (Y : My meth (some .boolean))  : ∀ (S : Hp) (H : Heap) (locs : List Loc) (ls : Array Slot), wX8_isNotWhole_b0 x0 x1 Φ S → Ok G S H → va_S (Ab G.b) s.heap H locs → lv_has ls 2 [(0, .ref x0), (1, .int x1)] → W p l e rm_X8_isNotWhole s m args below meth c H locs 0 0 (MQ below (gQ G (PI Φ)) args s rm_X8_isNotWhole.cells rm_X8_isNotWhole.slots (Ab G.b)) (F0 m 0 ls []) := by
  intro S H locs ls h hO hS hl
  unfold wX8_isNotWhole_b0 at h
  refine lv_aload_n C0.1 C0.2.1 dX8_isNotWhole_0 rfl (lv_at hl 0 rfl) ?_
  refine lv_aload_n C0.1 C0.2.1 dX8_isNotWhole_1 rfl (lv_at hl 0 rfl) ?_
  refine lv_iload_n C0.1 C0.2.1 dX8_isNotWhole_2 rfl (lv_at hl 1 rfl) ?_
  obtain ⟨i3, h⟩ := h
  refine c_V C0 hO hS (mX8_isNoCam h) i3 (by decide) rfl rfl tb_1642 tb_1644 tb_59 tb_81 tb_1645 hd_X8_isNoCam rfl ⟨⟨by decide, by decide⟩, by decide, by decide⟩ hl.1 rfl (Nat.le_of_ble_eq_true rfl) dX8_isNotWhole_3 (kI (fun r2 S1 H locs h hO hS => ?_))
  refine lv_iconst (v := 1) C0.1 C0.2.1 dX8_isNotWhole_6 (by decide) ?_
  obtain ⟨i6, h⟩ := h
  refine c_V C0 hO hS (mX8_isThrown h) i6 (by decide) rfl rfl tb_1451 tb_1453 tb_37 tb_81 tb_1454 hd_X8_isThrown rfl ⟨⟨by decide, by decide⟩, by decide, by decide⟩ hl.1 rfl (Nat.le_of_ble_eq_true rfl) dX8_isNotWhole_7 (kI (fun r5 S4 H locs h hO hS => ?_))
  refine lv_if_ne (tgt := 36) C0.1 C0.2.1 dX8_isNotWhole_10 (by decide) (fun c7 => ?_) (fun c7 => ?_)
  · have h := h.1 c7
    exact bX8_isNotWhole_b36 C0 Y _ _ _ _ h hO hS (lv_sub hl [0, 1] rfl)
  · have h := h.2 c7
    refine lv_aload_n C0.1 C0.2.1 dX8_isNotWhole_13 rfl (lv_at hl 0 rfl) ?_
    refine lv_aload_n C0.1 C0.2.1 dX8_isNotWhole_14 rfl (lv_at hl 0 rfl) ?_
    refine lv_iload_n C0.1 C0.2.1 dX8_isNotWhole_15 rfl (lv_at hl 1 rfl) ?_
    obtain ⟨i10, h⟩ := h
    refine c_V C0 hO hS (mX8_partsOf h) i10 (by decide) rfl rfl tb_1646 tb_1648 tb_60 tb_81 tb_1649 hd_X8_partsOf rfl ⟨⟨by decide, by decide⟩, by decide, by decide⟩ hl.1 rfl (Nat.le_of_ble_eq_true rfl) dX8_isNotWhole_16 (kI (fun r9 S8 H locs h hO hS => ?_))
    refine lv_bipush (v := 24) C0.1 C0.2.1 dX8_isNotWhole_19 (by decide) ?_
    refine lv_icmp_eq (tgt := 28) C0.1 C0.2.1 dX8_isNotWhole_21 (by decide) (fun c11 => ?_) (fun c11 => ?_)
    · have h := h.1 c11
      refine lv_iconst (v := 0) C0.1 C0.2.1 dX8_isNotWhole_28 (by decide) ?_
      exact bX8_isNotWhole_b29 C0 Y _ _ _ _ _ _ h hO hS (lv_sub hl [0, 1] rfl)
    · have h := h.2 c11
      refine lv_iconst (v := 1) C0.1 C0.2.1 dX8_isNotWhole_24 (by decide) ?_
      refine lv_goto (tgt := 29) C0.1 C0.2.1 dX8_isNotWhole_25 (by decide) ?_
      exact bX8_isNotWhole_b29 C0 Y _ _ _ _ _ _ h hO hS (lv_sub hl [0, 1] rfl)
def wX8_isNotWhole (S : Hp) (x0 : Nat) (x1 : Int32) (Φ : Hp → Int32 → Prop) : Prop := wX8_isNotWhole_b0 x0 x1 Φ S
set_option maxRecDepth 100000 in
theorem mX8_isNotWhole {l : Launch} {G : Gw} {S : Hp} {x0 : Nat} {x1 : Int32} {Φ : Hp → Int32 → Prop} (h : wX8_isNotWhole S x0 x1 Φ) : gM l yX8_isNotWhole cX8_isNotWhole 2 (some .boolean) rm_X8_isNotWhole [.ref x0, .int x1] G S (PI Φ) := by
  unfold gM
  refine Met.ofW (cc := cX8_isNotWhole) (maxL := 2) (ret := (some .boolean)) (by decide) rfl ?_
  intro p e s m args below meth c s₁ B hml hv
  obtain ⟨rfl, hw⟩ := hv
  obtain ⟨C0, Y, hO⟩ := mx_of B hml hw
  have hS : va_S (Ab G.b) s.heap s.heap [] := va_S.rf
  have hl := lv_entry ([.ref x0, .int x1]) (n := 2) (Nat.le_of_ble_eq_true rfl)
  rw [lg_entry_eq]
  generalize (lg_sl ([.ref x0, .int x1]) ++ List.replicate (2 - (lg_sl ([.ref x0, .int x1])).length) Slot.unset).toArray = ls at hl ⊢
  have hl : lv_has ls 2 [(0, .ref x0), (1, .int x1)] := hl
  exact bX8_isNotWhole_b0 C0 Y S _ _ _ h hO hS hl

def rm_X8_before : Room := { frames := 0, cells := 0, slots := 0, locals := 0 }
def wX8_before_b0 (x0 : Nat) (x1 : Int32) (x2 : Int32) (Φ : Hp → Int32 → Prop) (S : Hp) : Prop := isA S x0 8 ∧ ∃ a2, S.FR 537 x0 = some a2 ∧ isA S a2 26 ∧ vp_in x1 (S.N a2) ∧ ∃ a5, S.AR a2 x1.toNatClampNeg = some a5 ∧ ((¬ x2 = 0 → isA S a5 21 ∧ vp_in (x2 - 1) (S.N a5) ∧ Φ S (S.AI a5 ((x2 - 1).toNatClampNeg))) ∧ (x2 = 0 → ∃ a9, S.FR 535 x0 = some a9 ∧ isA S a9 21 ∧ vp_in x1 (S.N a9) ∧ isA S a5 21 ∧ vp_in ((S.AI a9 x1.toNatClampNeg) - 1) (S.N a5) ∧ Φ S (S.AI a5 (((S.AI a9 x1.toNatClampNeg) - 1).toNatClampNeg))))
set_option maxHeartbeats 4000000 in
set_option maxRecDepth 100000 in
theorem bX8_before_b0 {p : Program} {l : Launch} {e : Env} {s : State} {m : MethodId} {args : Array Value} {below : List Frame} {meth : Method} {c : Code} {G : Gw} {x0 : Nat} {x1 : Int32} {x2 : Int32} {Φ : Hp → Int32 → Prop} (C0 : Mx p s m c cX8_before 3 args yX8_before.cls G) (Y : My meth (some .int))  : ∀ (S : Hp) (H : Heap) (locs : List Loc) (ls : Array Slot), wX8_before_b0 x0 x1 x2 Φ S → Ok G S H → va_S (Ab G.b) s.heap H locs → lv_has ls 3 [(0, .ref x0), (1, .int x1), (2, .int x2)] → W p l e rm_X8_before s m args below meth c H locs 0 0 (MQ below (gQ G (PI Φ)) args s rm_X8_before.cells rm_X8_before.slots (Ab G.b)) (F0 m 0 ls []) := by
  intro S H locs ls h hO hS hl
  unfold wX8_before_b0 at h
  refine lv_aload_n C0.1 C0.2.1 dX8_before_0 rfl (lv_at hl 0 rfl) ?_
  obtain ⟨i1, h⟩ := h
  obtain ⟨a2, ea2, h⟩ := h
  refine g8_25 C0 hO i1 ea2 tb_1353 dX8_before_1 ?_
  refine lv_iload_n C0.1 C0.2.1 dX8_before_4 rfl (lv_at hl 1 rfl) ?_
  obtain ⟨i3, h⟩ := h
  obtain ⟨e4, a5, ea5, h⟩ := h
  refine r_oald26 C0 hO i3 e4 dX8_before_5 ?_
  rw [ea5]
  change W _ _ _ _ _ _ _ _ _ _ _ _ _ _ _ (F0 _ _ _ (.ref a5 :: _))
  refine lv_iload_n C0.1 C0.2.1 dX8_before_6 rfl (lv_at hl 2 rfl) ?_
  refine lv_if_ne (tgt := 21) C0.1 C0.2.1 dX8_before_7 (by decide) (fun c6 => ?_) (fun c6 => ?_)
  · have h := h.1 c6
    refine lv_iload_n C0.1 C0.2.1 dX8_before_21 rfl (lv_at hl 2 rfl) ?_
    refine lv_iconst (v := 1) C0.1 C0.2.1 dX8_before_22 (by decide) ?_
    refine lv_isub C0.1 C0.2.1 dX8_before_23 ?_
    obtain ⟨i7, h⟩ := h
    obtain ⟨e8, h⟩ := h
    refine r_iald C0 hO i7 e8 dX8_before_24 ?_
    exact e_I C0 Y hO hS h (Nat.le_refl _) (Nat.le_refl _) dX8_before_25
  · have h := h.2 c6
    refine lv_aload_n C0.1 C0.2.1 dX8_before_10 rfl (lv_at hl 0 rfl) ?_
    obtain ⟨a9, ea9, h⟩ := h
    refine g8_23 C0 hO i1 ea9 tb_1351 dX8_before_11 ?_
    refine lv_iload_n C0.1 C0.2.1 dX8_before_14 rfl (lv_at hl 1 rfl) ?_
    obtain ⟨i10, h⟩ := h
    obtain ⟨e11, h⟩ := h
    refine r_iald C0 hO i10 e11 dX8_before_15 ?_
    refine lv_iconst (v := 1) C0.1 C0.2.1 dX8_before_16 (by decide) ?_
    refine lv_isub C0.1 C0.2.1 dX8_before_17 ?_
    refine lv_goto (tgt := 24) C0.1 C0.2.1 dX8_before_18 (by decide) ?_
    obtain ⟨i12, h⟩ := h
    obtain ⟨e13, h⟩ := h
    refine r_iald C0 hO i12 e13 dX8_before_24 ?_
    exact e_I C0 Y hO hS h (Nat.le_refl _) (Nat.le_refl _) dX8_before_25
def wX8_before (S : Hp) (x0 : Nat) (x1 : Int32) (x2 : Int32) (Φ : Hp → Int32 → Prop) : Prop := wX8_before_b0 x0 x1 x2 Φ S
set_option maxRecDepth 100000 in
theorem mX8_before {l : Launch} {G : Gw} {S : Hp} {x0 : Nat} {x1 : Int32} {x2 : Int32} {Φ : Hp → Int32 → Prop} (h : wX8_before S x0 x1 x2 Φ) : gM l yX8_before cX8_before 3 (some .int) rm_X8_before [.ref x0, .int x1, .int x2] G S (PI Φ) := by
  unfold gM
  refine Met.ofW (cc := cX8_before) (maxL := 3) (ret := (some .int)) (by decide) rfl ?_
  intro p e s m args below meth c s₁ B hml hv
  obtain ⟨rfl, hw⟩ := hv
  obtain ⟨C0, Y, hO⟩ := mx_of B hml hw
  have hS : va_S (Ab G.b) s.heap s.heap [] := va_S.rf
  have hl := lv_entry ([.ref x0, .int x1, .int x2]) (n := 3) (Nat.le_of_ble_eq_true rfl)
  rw [lg_entry_eq]
  generalize (lg_sl ([.ref x0, .int x1, .int x2]) ++ List.replicate (3 - (lg_sl ([.ref x0, .int x1, .int x2])).length) Slot.unset).toArray = ls at hl ⊢
  have hl : lv_has ls 3 [(0, .ref x0), (1, .int x1), (2, .int x2)] := hl
  exact bX8_before_b0 C0 Y S _ _ _ h hO hS hl

def rm_X8_height : Room := { frames := 4, cells := 0, slots := 0, locals := 100 }
def wX8_height_b225 (x0 : Nat) (x1 : Int32) (x2 : Int32) (Φ : Hp → Int64 → Prop) (S : Hp) : Prop := ((x2 = 0 → isA S x0 8 ∧ Φ S (S.FJ 548 x0)) ∧ (¬ (x2 = 0) → isA S x0 8 ∧ Φ S (S.FJ 547 x0)))
set_option maxHeartbeats 4000000 in
set_option maxRecDepth 100000 in
theorem bX8_height_b225 {p : Program} {l : Launch} {e : Env} {s : State} {m : MethodId} {args : Array Value} {below : List Frame} {meth : Method} {c : Code} {G : Gw} {x0 : Nat} {x1 : Int32} {x2 : Int32} {Φ : Hp → Int64 → Prop} (C0 : Mx p s m c cX8_height 15 args yX8_height.cls G) (Y : My meth (some .long))  : ∀ (S : Hp) (H : Heap) (locs : List Loc) (ls : Array Slot), wX8_height_b225 x0 x1 x2 Φ S → Ok G S H → va_S (Ab G.b) s.heap H locs → lv_has ls 15 [(0, .ref x0), (1, .int x1), (2, .int x2)] → W p l e rm_X8_height s m args below meth c H locs 0 0 (MQ below (gQ G (PJ Φ)) args s rm_X8_height.cells rm_X8_height.slots (Ab G.b)) (F0 m 225 ls []) := by
  intro S H locs ls h hO hS hl
  unfold wX8_height_b225 at h
  refine lv_iload_n C0.1 C0.2.1 dX8_height_225 rfl (lv_at hl 2 rfl) ?_
  refine lv_if_eq (tgt := 236) C0.1 C0.2.1 dX8_height_226 (by decide) (fun c1 => ?_) (fun c1 => ?_)
  · have h := h.1 c1
    refine lv_aload_n C0.1 C0.2.1 dX8_height_236 rfl (lv_at hl 0 rfl) ?_
    obtain ⟨i2, h⟩ := h
    refine g8_36 C0 hO i2 tb_1364 dX8_height_237 ?_
    exact e_J C0 Y hO hS h (Nat.le_refl _) (Nat.le_refl _) dX8_height_240
  · have h := h.2 c1
    refine lv_aload_n C0.1 C0.2.1 dX8_height_229 rfl (lv_at hl 0 rfl) ?_
    obtain ⟨i3, h⟩ := h
    refine g8_35 C0 hO i3 tb_1363 dX8_height_230 ?_
    refine lv_goto (tgt := 240) C0.1 C0.2.1 dX8_height_233 (by decide) ?_
    exact e_J C0 Y hO hS h (Nat.le_refl _) (Nat.le_refl _) dX8_height_240
def wX8_height_b46 (x0 : Nat) (x1 : Int32) (x2 : Int32) (Φ : Hp → Int64 → Prop) (k46 : Hp → Int64 → Int32 → Prop) (S : Hp) (v4 : Int64) (v6 : Int32) : Prop := isA S x0 8 ∧ ∃ a2, S.FR 536 x0 = some a2 ∧ isA S a2 26 ∧ vp_in x1 (S.N a2) ∧ ∃ a5, S.AR a2 x1.toNatClampNeg = some a5 ∧ isA S a5 21 ∧ vp_in v6 (S.N a5) ∧ (((lg_cmp v4 ((S.AI a5 v6.toNatClampNeg).toInt64)) < 0 → ∃ a9, S.FR 536 x0 = some a9 ∧ isA S a9 26 ∧ vp_in x1 (S.N a9) ∧ ∃ a12, S.AR a9 x1.toNatClampNeg = some a12 ∧ isA S a12 21 ∧ vp_in v6 (S.N a12) ∧ wX8_before S x0 x1 v6 (fun S15 r16 => isA S15 x0 8 ∧ ∃ a18, S15.FR 537 x0 = some a18 ∧ isA S15 a18 26 ∧ vp_in x1 (S15.N a18) ∧ ∃ a21, S15.AR a18 x1.toNatClampNeg = some a21 ∧ isA S15 a21 21 ∧ vp_in v6 (S15.N a21) ∧ ∃ a24, S15.FR 538 x0 = some a24 ∧ isA S15 a24 27 ∧ vp_in x1 (S15.N a24) ∧ ∃ a27, S15.AR a24 x1.toNatClampNeg = some a27 ∧ isA S15 a27 20 ∧ vp_in v6 (S15.N a27) ∧ ((¬ (S15.AI a27 v6.toNatClampNeg) = 117 → ((0 < (lg_cmp (2 * v4) ((S.AI a12 v6.toNatClampNeg).toInt64)) → wX8_sum S15 x0 (r16.toInt64 + (((S15.AI a21 v6.toNatClampNeg).toInt64) - r16.toInt64)) 1 ((((-(((S15.AI a21 v6.toNatClampNeg).toInt64) - r16.toInt64)) * 2) * (((S.AI a12 v6.toNatClampNeg).toInt64) - v4)) * (((S.AI a12 v6.toNatClampNeg).toInt64) - v4)) (((S.AI a12 v6.toNatClampNeg).toInt64) * ((S.AI a12 v6.toNatClampNeg).toInt64)) (fun S32 => wX8_height_b225 x0 x1 x2 Φ S32)) ∧ (¬ (0 < (lg_cmp (2 * v4) ((S.AI a12 v6.toNatClampNeg).toInt64))) → wX8_sum S15 x0 r16.toInt64 1 ((((((S15.AI a21 v6.toNatClampNeg).toInt64) - r16.toInt64) * 2) * v4) * v4) (((S.AI a12 v6.toNatClampNeg).toInt64) * ((S.AI a12 v6.toNatClampNeg).toInt64)) (fun S33 => wX8_height_b225 x0 x1 x2 Φ S33)))) ∧ ((S15.AI a27 v6.toNatClampNeg) = 117 → wX8_sum S15 x0 r16.toInt64 1 ((((S15.AI a21 v6.toNatClampNeg).toInt64) - r16.toInt64) * v4) ((S.AI a12 v6.toNatClampNeg).toInt64) (fun S34 => wX8_height_b225 x0 x1 x2 Φ S34))))) ∧ (¬ ((lg_cmp v4 ((S.AI a5 v6.toNatClampNeg).toInt64)) < 0) → ∃ a35, S.FR 536 x0 = some a35 ∧ isA S a35 26 ∧ vp_in x1 (S.N a35) ∧ ∃ a38, S.AR a35 x1.toNatClampNeg = some a38 ∧ isA S a38 21 ∧ vp_in v6 (S.N a38) ∧ k46 S (v4 - ((S.AI a38 v6.toNatClampNeg).toInt64)) (v6 + 1)))
set_option maxHeartbeats 4000000 in
set_option maxRecDepth 100000 in
theorem bX8_height_b46 {p : Program} {l : Launch} {e : Env} {s : State} {m : MethodId} {args : Array Value} {below : List Frame} {meth : Method} {c : Code} {G : Gw} {x0 : Nat} {x1 : Int32} {x2 : Int32} {Φ : Hp → Int64 → Prop} (C0 : Mx p s m c cX8_height 15 args yX8_height.cls G) (Y : My meth (some .long)) {k46 : Hp → Int64 → Int32 → Prop} (hk46 : ∀ (S : Hp) (v4 : Int64) (v6 : Int32) (H : Heap) (locs : List Loc) (ls : Array Slot), k46 S v4 v6 → Ok G S H → va_S (Ab G.b) s.heap H locs → lv_has ls 15 [(0, .ref x0), (1, .int x1), (2, .int x2), (4, .long v4), (6, .int v6)] → W p l e rm_X8_height s m args below meth c H locs 0 0 (MQ below (gQ G (PJ Φ)) args s rm_X8_height.cells rm_X8_height.slots (Ab G.b)) (F0 m 46 ls [])) : ∀ (S : Hp) (v4 : Int64) (v6 : Int32) (H : Heap) (locs : List Loc) (ls : Array Slot), wX8_height_b46 x0 x1 x2 Φ k46 S v4 v6 → Ok G S H → va_S (Ab G.b) s.heap H locs → lv_has ls 15 [(0, .ref x0), (1, .int x1), (2, .int x2), (4, .long v4), (6, .int v6)] → W p l e rm_X8_height s m args below meth c H locs 0 0 (MQ below (gQ G (PJ Φ)) args s rm_X8_height.cells rm_X8_height.slots (Ab G.b)) (F0 m 46 ls []) := by
  intro S v4 v6 H locs ls h hO hS hl
  unfold wX8_height_b46 at h
  refine lv_lload C0.1 C0.2.1 dX8_height_46 (lv_at hl 3 rfl) ?_
  refine lv_aload_n C0.1 C0.2.1 dX8_height_48 rfl (lv_at hl 0 rfl) ?_
  obtain ⟨i1, h⟩ := h
  obtain ⟨a2, ea2, h⟩ := h
  refine g8_24 C0 hO i1 ea2 tb_1352 dX8_height_49 ?_
  refine lv_iload_n C0.1 C0.2.1 dX8_height_52 rfl (lv_at hl 1 rfl) ?_
  obtain ⟨i3, h⟩ := h
  obtain ⟨e4, a5, ea5, h⟩ := h
  refine r_oald26 C0 hO i3 e4 dX8_height_53 ?_
  rw [ea5]
  change W _ _ _ _ _ _ _ _ _ _ _ _ _ _ _ (F0 _ _ _ (.ref a5 :: _))
  refine lv_iload C0.1 C0.2.1 dX8_height_54 (lv_at hl 4 rfl) ?_
  obtain ⟨i6, h⟩ := h
  obtain ⟨e7, h⟩ := h
  refine r_iald C0 hO i6 e7 dX8_height_56 ?_
  refine lv_i2l C0.1 C0.2.1 dX8_height_57 rfl ?_
  refine W.lcmp C0.1 C0.2.1 dX8_height_58 ?_
  refine lv_if_lt (tgt := 83) C0.1 C0.2.1 dX8_height_59 (by decide) (fun c8 => ?_) (fun c8 => ?_)
  · have h := h.1 c8
    refine lv_aload_n C0.1 C0.2.1 dX8_height_83 rfl (lv_at hl 0 rfl) ?_
    obtain ⟨a9, ea9, h⟩ := h
    refine g8_24 C0 hO i1 ea9 tb_1352 dX8_height_84 ?_
    refine lv_iload_n C0.1 C0.2.1 dX8_height_87 rfl (lv_at hl 1 rfl) ?_
    obtain ⟨i10, h⟩ := h
    obtain ⟨e11, a12, ea12, h⟩ := h
    refine r_oald26 C0 hO i10 e11 dX8_height_88 ?_
    rw [ea12]
    change W _ _ _ _ _ _ _ _ _ _ _ _ _ _ _ (F0 _ _ _ (.ref a12 :: _))
    refine lv_iload C0.1 C0.2.1 dX8_height_89 (lv_at hl 4 rfl) ?_
    obtain ⟨i13, h⟩ := h
    obtain ⟨e14, h⟩ := h
    refine r_iald C0 hO i13 e14 dX8_height_91 ?_
    refine lv_i2l C0.1 C0.2.1 dX8_height_92 rfl ?_
    refine lv_lstore C0.1 C0.2.1 dX8_height_93 hl (by decide) rfl (fun ls hl => ?_)
    refine lv_aload_n C0.1 C0.2.1 dX8_height_95 rfl (lv_at hl 1 rfl) ?_
    refine lv_iload_n C0.1 C0.2.1 dX8_height_96 rfl (lv_at hl 2 rfl) ?_
    refine lv_iload C0.1 C0.2.1 dX8_height_97 (lv_at hl 5 rfl) ?_
    refine c_V C0 hO hS (mX8_before h) i1 (by decide) rfl rfl tb_1670 tb_1672 tb_64 tb_81 tb_1673 hd_X8_before rfl ⟨⟨by decide, by decide⟩, by decide, by decide⟩ hl.1 rfl (Nat.le_of_ble_eq_true rfl) dX8_height_99 (kI (fun r16 S15 H locs h hO hS => ?_))
    refine lv_i2l C0.1 C0.2.1 dX8_height_102 rfl ?_
    refine lv_lstore C0.1 C0.2.1 dX8_height_103 hl (by decide) rfl (fun ls hl => ?_)
    refine lv_aload_n C0.1 C0.2.1 dX8_height_105 rfl (lv_at hl 2 rfl) ?_
    obtain ⟨i17, h⟩ := h
    obtain ⟨a18, ea18, h⟩ := h
    refine g8_25 C0 hO i17 ea18 tb_1353 dX8_height_106 ?_
    refine lv_iload_n C0.1 C0.2.1 dX8_height_109 rfl (lv_at hl 3 rfl) ?_
    obtain ⟨i19, h⟩ := h
    obtain ⟨e20, a21, ea21, h⟩ := h
    refine r_oald26 C0 hO i19 e20 dX8_height_110 ?_
    rw [ea21]
    change W _ _ _ _ _ _ _ _ _ _ _ _ _ _ _ (F0 _ _ _ (.ref a21 :: _))
    refine lv_iload C0.1 C0.2.1 dX8_height_111 (lv_at hl 6 rfl) ?_
    obtain ⟨i22, h⟩ := h
    obtain ⟨e23, h⟩ := h
    refine r_iald C0 hO i22 e23 dX8_height_113 ?_
    refine lv_i2l C0.1 C0.2.1 dX8_height_114 rfl ?_
    refine lv_lload C0.1 C0.2.1 dX8_height_115 (lv_at hl 0 rfl) ?_
    refine lv_lsub C0.1 C0.2.1 dX8_height_117 ?_
    refine lv_lstore C0.1 C0.2.1 dX8_height_118 hl (by decide) rfl (fun ls hl => ?_)
    refine lv_aload_n C0.1 C0.2.1 dX8_height_120 rfl (lv_at hl 3 rfl) ?_
    obtain ⟨a24, ea24, h⟩ := h
    refine g8_26 C0 hO i17 ea24 tb_1354 dX8_height_121 ?_
    refine lv_iload_n C0.1 C0.2.1 dX8_height_124 rfl (lv_at hl 4 rfl) ?_
    obtain ⟨i25, h⟩ := h
    obtain ⟨e26, a27, ea27, h⟩ := h
    refine r_oald27 C0 hO i25 e26 dX8_height_125 ?_
    rw [ea27]
    change W _ _ _ _ _ _ _ _ _ _ _ _ _ _ _ (F0 _ _ _ (.ref a27 :: _))
    refine lv_iload C0.1 C0.2.1 dX8_height_126 (lv_at hl 7 rfl) ?_
    obtain ⟨i28, h⟩ := h
    obtain ⟨e29, h⟩ := h
    refine r_cald C0 hO i28 e29 dX8_height_128 ?_
    refine lv_bipush (v := 117) C0.1 C0.2.1 dX8_height_129 (by decide) ?_
    refine lv_icmp_ne (tgt := 151) C0.1 C0.2.1 dX8_height_131 (by decide) (fun c30 => ?_) (fun c30 => ?_)
    · have h := h.1 c30
      refine lv_ldc2 (v := 2) C0.1 C0.2.1 C0.2.2.2.1 (C0.2.2.2.2.1 _ tb_1674) dX8_height_151 ?_
      refine lv_lload C0.1 C0.2.1 dX8_height_154 (lv_at hl 6 rfl) ?_
      refine lv_lmul C0.1 C0.2.1 dX8_height_156 ?_
      refine lv_lload C0.1 C0.2.1 dX8_height_157 (lv_at hl 2 rfl) ?_
      refine W.lcmp C0.1 C0.2.1 dX8_height_159 ?_
      refine lv_if_gt (tgt := 190) C0.1 C0.2.1 dX8_height_160 (by decide) (fun c31 => ?_) (fun c31 => ?_)
      · have h := h.1 c31
        refine lv_lload C0.1 C0.2.1 dX8_height_190 (lv_at hl 2 rfl) ?_
        refine lv_lload C0.1 C0.2.1 dX8_height_192 (lv_at hl 6 rfl) ?_
        refine lv_lsub C0.1 C0.2.1 dX8_height_194 ?_
        refine lv_lstore C0.1 C0.2.1 dX8_height_195 hl (by decide) rfl (fun ls hl => ?_)
        refine lv_aload_n C0.1 C0.2.1 dX8_height_197 rfl (lv_at hl 4 rfl) ?_
        refine lv_lload C0.1 C0.2.1 dX8_height_198 (lv_at hl 2 rfl) ?_
        refine lv_lload C0.1 C0.2.1 dX8_height_200 (lv_at hl 1 rfl) ?_
        refine lv_ladd C0.1 C0.2.1 dX8_height_202 ?_
        refine lv_lconst (v := 1) C0.1 C0.2.1 dX8_height_203 (by decide) ?_
        refine lv_lload C0.1 C0.2.1 dX8_height_204 (lv_at hl 1 rfl) ?_
        refine lv_lneg C0.1 C0.2.1 dX8_height_206 ?_
        refine lv_ldc2 (v := 2) C0.1 C0.2.1 C0.2.2.2.1 (C0.2.2.2.2.1 _ tb_1674) dX8_height_207 ?_
        refine lv_lmul C0.1 C0.2.1 dX8_height_210 ?_
        refine lv_lload C0.1 C0.2.1 dX8_height_211 (lv_at hl 0 rfl) ?_
        refine lv_lmul C0.1 C0.2.1 dX8_height_213 ?_
        refine lv_lload C0.1 C0.2.1 dX8_height_214 (lv_at hl 0 rfl) ?_
        refine lv_lmul C0.1 C0.2.1 dX8_height_216 ?_
        refine lv_lload C0.1 C0.2.1 dX8_height_217 (lv_at hl 3 rfl) ?_
        refine lv_lload C0.1 C0.2.1 dX8_height_219 (lv_at hl 3 rfl) ?_
        refine lv_lmul C0.1 C0.2.1 dX8_height_221 ?_
        refine c_V C0 hO hS (mX8_sum h) i17 (by decide) rfl rfl tb_1548 tb_1550 tb_51 tb_81 tb_1551 hd_X8_sum rfl ⟨⟨by decide, by decide⟩, by decide, by decide⟩ hl.1 rfl (Nat.le_of_ble_eq_true rfl) dX8_height_222 (kV (fun S32 H locs h hO hS => ?_))
        exact bX8_height_b225 C0 Y _ _ _ _ h hO hS (lv_sub hl [4, 5, 6] rfl)
      · have h := h.2 c31
        refine lv_aload_n C0.1 C0.2.1 dX8_height_163 rfl (lv_at hl 3 rfl) ?_
        refine lv_lload C0.1 C0.2.1 dX8_height_164 (lv_at hl 1 rfl) ?_
        refine lv_lconst (v := 1) C0.1 C0.2.1 dX8_height_166 (by decide) ?_
        refine lv_lload C0.1 C0.2.1 dX8_height_167 (lv_at hl 0 rfl) ?_
        refine lv_ldc2 (v := 2) C0.1 C0.2.1 C0.2.2.2.1 (C0.2.2.2.2.1 _ tb_1674) dX8_height_169 ?_
        refine lv_lmul C0.1 C0.2.1 dX8_height_172 ?_
        refine lv_lload C0.1 C0.2.1 dX8_height_173 (lv_at hl 6 rfl) ?_
        refine lv_lmul C0.1 C0.2.1 dX8_height_175 ?_
        refine lv_lload C0.1 C0.2.1 dX8_height_176 (lv_at hl 6 rfl) ?_
        refine lv_lmul C0.1 C0.2.1 dX8_height_178 ?_
        refine lv_lload C0.1 C0.2.1 dX8_height_179 (lv_at hl 2 rfl) ?_
        refine lv_lload C0.1 C0.2.1 dX8_height_181 (lv_at hl 2 rfl) ?_
        refine lv_lmul C0.1 C0.2.1 dX8_height_183 ?_
        refine c_V C0 hO hS (mX8_sum h) i17 (by decide) rfl rfl tb_1548 tb_1550 tb_51 tb_81 tb_1551 hd_X8_sum rfl ⟨⟨by decide, by decide⟩, by decide, by decide⟩ hl.1 rfl (Nat.le_of_ble_eq_true rfl) dX8_height_184 (kV (fun S33 H locs h hO hS => ?_))
        refine lv_goto (tgt := 225) C0.1 C0.2.1 dX8_height_187 (by decide) ?_
        exact bX8_height_b225 C0 Y _ _ _ _ h hO hS (lv_sub hl [3, 4, 5] rfl)
    · have h := h.2 c30
      refine lv_aload_n C0.1 C0.2.1 dX8_height_134 rfl (lv_at hl 3 rfl) ?_
      refine lv_lload C0.1 C0.2.1 dX8_height_135 (lv_at hl 1 rfl) ?_
      refine lv_lconst (v := 1) C0.1 C0.2.1 dX8_height_137 (by decide) ?_
      refine lv_lload C0.1 C0.2.1 dX8_height_138 (lv_at hl 0 rfl) ?_
      refine lv_lload C0.1 C0.2.1 dX8_height_140 (lv_at hl 6 rfl) ?_
      refine lv_lmul C0.1 C0.2.1 dX8_height_142 ?_
      refine lv_lload C0.1 C0.2.1 dX8_height_143 (lv_at hl 2 rfl) ?_
      refine c_V C0 hO hS (mX8_sum h) i17 (by decide) rfl rfl tb_1548 tb_1550 tb_51 tb_81 tb_1551 hd_X8_sum rfl ⟨⟨by decide, by decide⟩, by decide, by decide⟩ hl.1 rfl (Nat.le_of_ble_eq_true rfl) dX8_height_145 (kV (fun S34 H locs h hO hS => ?_))
      refine lv_goto (tgt := 225) C0.1 C0.2.1 dX8_height_148 (by decide) ?_
      exact bX8_height_b225 C0 Y _ _ _ _ h hO hS (lv_sub hl [3, 4, 5] rfl)
  · have h := h.2 c8
    refine lv_lload C0.1 C0.2.1 dX8_height_62 (lv_at hl 3 rfl) ?_
    refine lv_aload_n C0.1 C0.2.1 dX8_height_64 rfl (lv_at hl 0 rfl) ?_
    obtain ⟨a35, ea35, h⟩ := h
    refine g8_24 C0 hO i1 ea35 tb_1352 dX8_height_65 ?_
    refine lv_iload_n C0.1 C0.2.1 dX8_height_68 rfl (lv_at hl 1 rfl) ?_
    obtain ⟨i36, h⟩ := h
    obtain ⟨e37, a38, ea38, h⟩ := h
    refine r_oald26 C0 hO i36 e37 dX8_height_69 ?_
    rw [ea38]
    change W _ _ _ _ _ _ _ _ _ _ _ _ _ _ _ (F0 _ _ _ (.ref a38 :: _))
    refine lv_iload C0.1 C0.2.1 dX8_height_70 (lv_at hl 4 rfl) ?_
    obtain ⟨i39, h⟩ := h
    obtain ⟨e40, h⟩ := h
    refine r_iald C0 hO i39 e40 dX8_height_72 ?_
    refine lv_i2l C0.1 C0.2.1 dX8_height_73 rfl ?_
    refine lv_lsub C0.1 C0.2.1 dX8_height_74 ?_
    refine lv_lstore C0.1 C0.2.1 dX8_height_75 hl (by decide) rfl (fun ls hl => ?_)
    refine lv_iinc (v := _ + 1) C0.1 C0.2.1 dX8_height_77 hl (k := 4) rfl rfl (by decide) rfl (fun ls hl => ?_)
    refine lv_goto (tgt := 46) C0.1 C0.2.1 dX8_height_80 (by decide) ?_
    exact hk46 _ _ _ _ _ _ h hO hS (lv_sub hl [2, 3, 4, 1, 0] rfl)
set_option maxHeartbeats 4000000 in
set_option maxRecDepth 100000 in
theorem lX8_height_b46 {p : Program} {l : Launch} {e : Env} {s : State} {m : MethodId} {args : Array Value} {below : List Frame} {meth : Method} {c : Code} {G : Gw} {x0 : Nat} {x1 : Int32} {x2 : Int32} {Φ : Hp → Int64 → Prop} (C0 : Mx p s m c cX8_height 15 args yX8_height.cls G) (Y : My meth (some .long))  : ∀ n9 : Nat, ∀ (S : Hp) (v4 : Int64) (v6 : Int32) (H : Heap) (locs : List Loc) (ls : Array Slot), it3 (wX8_height_b46 x0 x1 x2 Φ) n9 S v4 v6 → Ok G S H → va_S (Ab G.b) s.heap H locs → lv_has ls 15 [(0, .ref x0), (1, .int x1), (2, .int x2), (4, .long v4), (6, .int v6)] → W p l e rm_X8_height s m args below meth c H locs 0 0 (MQ below (gQ G (PJ Φ)) args s rm_X8_height.cells rm_X8_height.slots (Ab G.b)) (F0 m 46 ls []) := by
  intro n9
  induction n9 with
  | zero => intro S v4 v6 H locs ls h; exact (h : False).elim
  | succ n9 ih => intro S v4 v6 H locs ls h hO hS hl; exact bX8_height_b46 C0 Y ih S v4 v6 H locs ls h hO hS hl
def wX8_height_b0 (x0 : Nat) (x1 : Int32) (x2 : Int32) (Φ : Hp → Int64 → Prop) (S : Hp) : Prop := isA S x0 8 ∧ wX8_isNotWhole S x0 x1 (fun S1 r2 => ((r2 = 0 → isA S1 x0 8 ∧ ∃ a6, S1.FR 534 x0 = some a6 ∧ isA S1 a6 21 ∧ vp_in x1 (S1.N a6) ∧ ∃ a9, S1.FR 512 x0 = some a9 ∧ isA S1 a9 22 ∧ vp_in (S1.AI a6 x1.toNatClampNeg) (S1.N a9) ∧ ∃ a12, S1.FR 513 x0 = some a12 ∧ isA S1 a12 22 ∧ vp_in (S1.AI a6 x1.toNatClampNeg) (S1.N a12) ∧ wX8_floor S1 24 (S1.AJ a9 ((S1.AI a6 x1.toNatClampNeg).toNatClampNeg)) (S1.AJ a12 ((S1.AI a6 x1.toNatClampNeg).toNatClampNeg)) (fun S15 r16 => wJ9_floorMod_f86c9 S15 r16 24 (fun S17 r18 => ∃ n, it3 (wX8_height_b46 x0 x1 x2 Φ) n S17 r18 0))) ∧ (¬ (r2 = 0) → Φ S1 0)))
set_option maxHeartbeats 4000000 in
set_option maxRecDepth 100000 in
theorem bX8_height_b0 {p : Program} {l : Launch} {e : Env} {s : State} {m : MethodId} {args : Array Value} {below : List Frame} {meth : Method} {c : Code} {G : Gw} {x0 : Nat} {x1 : Int32} {x2 : Int32} {Φ : Hp → Int64 → Prop} (C0 : Mx p s m c cX8_height 15 args yX8_height.cls G) (Y : My meth (some .long))  : ∀ (S : Hp) (H : Heap) (locs : List Loc) (ls : Array Slot), wX8_height_b0 x0 x1 x2 Φ S → Ok G S H → va_S (Ab G.b) s.heap H locs → lv_has ls 15 [(0, .ref x0), (1, .int x1), (2, .int x2)] → W p l e rm_X8_height s m args below meth c H locs 0 0 (MQ below (gQ G (PJ Φ)) args s rm_X8_height.cells rm_X8_height.slots (Ab G.b)) (F0 m 0 ls []) := by
  intro S H locs ls h hO hS hl
  unfold wX8_height_b0 at h
  refine lv_aload_n C0.1 C0.2.1 dX8_height_0 rfl (lv_at hl 0 rfl) ?_
  refine lv_iload_n C0.1 C0.2.1 dX8_height_1 rfl (lv_at hl 1 rfl) ?_
  obtain ⟨i3, h⟩ := h
  refine c_V C0 hO hS (mX8_isNotWhole h) i3 (by decide) rfl rfl tb_1666 tb_1668 tb_63 tb_81 tb_1669 hd_X8_isNotWhole rfl ⟨⟨by decide, by decide⟩, by decide, by decide⟩ hl.1 rfl (Nat.le_of_ble_eq_true rfl) dX8_height_2 (kI (fun r2 S1 H locs h hO hS => ?_))
  refine lv_if_eq (tgt := 10) C0.1 C0.2.1 dX8_height_5 (by decide) (fun c4 => ?_) (fun c4 => ?_)
  · have h := h.1 c4
    refine lv_aload_n C0.1 C0.2.1 dX8_height_10 rfl (lv_at hl 0 rfl) ?_
    obtain ⟨i5, h⟩ := h
    obtain ⟨a6, ea6, h⟩ := h
    refine g8_22 C0 hO i5 ea6 tb_1350 dX8_height_11 ?_
    refine lv_iload_n C0.1 C0.2.1 dX8_height_14 rfl (lv_at hl 1 rfl) ?_
    obtain ⟨i7, h⟩ := h
    obtain ⟨e8, h⟩ := h
    refine r_iald C0 hO i7 e8 dX8_height_15 ?_
    refine lv_istore_n C0.1 C0.2.1 dX8_height_16 rfl hl (by decide) rfl (fun ls hl => ?_)
    refine lv_ldc2 (v := 24) C0.1 C0.2.1 C0.2.2.2.1 (C0.2.2.2.2.1 _ tb_1531) dX8_height_17 ?_
    refine lv_aload_n C0.1 C0.2.1 dX8_height_20 rfl (lv_at hl 1 rfl) ?_
    obtain ⟨a9, ea9, h⟩ := h
    refine g8_0 C0 hO i5 ea9 tb_1328 dX8_height_21 ?_
    refine lv_iload_n C0.1 C0.2.1 dX8_height_24 rfl (lv_at hl 0 rfl) ?_
    obtain ⟨i10, h⟩ := h
    obtain ⟨e11, h⟩ := h
    refine r_lald C0 hO i10 e11 dX8_height_25 ?_
    refine lv_aload_n C0.1 C0.2.1 dX8_height_26 rfl (lv_at hl 1 rfl) ?_
    obtain ⟨a12, ea12, h⟩ := h
    refine g8_1 C0 hO i5 ea12 tb_1329 dX8_height_27 ?_
    refine lv_iload_n C0.1 C0.2.1 dX8_height_30 rfl (lv_at hl 0 rfl) ?_
    obtain ⟨i13, h⟩ := h
    obtain ⟨e14, h⟩ := h
    refine r_lald C0 hO i13 e14 dX8_height_31 ?_
    refine c_S C0 hO hS (mX8_floor h) tb_1494 tb_1495 tb_81 tb_1496 hd_X8_floor rfl ⟨⟨by decide, by decide⟩, by decide, by decide⟩ hl.1 rfl (Nat.le_of_ble_eq_true rfl) dX8_height_32 (kJ (fun r16 S15 H locs h hO hS => ?_))
    refine lv_ldc2 (v := 24) C0.1 C0.2.1 C0.2.2.2.1 (C0.2.2.2.2.1 _ tb_1531) dX8_height_35 ?_
    refine c_S C0 hO hS (mJ9_floorMod_f86c9 h) tb_1562 tb_351 tb_94 tb_352 hd_J9_floorMod_f86c9 rfl ⟨⟨by decide, by decide⟩, by decide, by decide⟩ hl.1 rfl (Nat.le_of_ble_eq_true rfl) dX8_height_38 (kJ (fun r18 S17 H locs h hO hS => ?_))
    refine lv_lstore C0.1 C0.2.1 dX8_height_41 hl (by decide) rfl (fun ls hl => ?_)
    refine lv_iconst (v := 0) C0.1 C0.2.1 dX8_height_43 (by decide) ?_
    refine lv_istore C0.1 C0.2.1 dX8_height_44 hl (by decide) rfl (fun ls hl => ?_)
    obtain ⟨n9, h⟩ := h
    exact lX8_height_b46 C0 Y n9 _ _ _ _ _ _ h hO hS (lv_sub hl [3, 4, 5, 1, 0] rfl)
  · have h := h.2 c4
    refine lv_lconst (v := 0) C0.1 C0.2.1 dX8_height_8 (by decide) ?_
    exact e_J C0 Y hO hS h (Nat.le_refl _) (Nat.le_refl _) dX8_height_9
def wX8_height (S : Hp) (x0 : Nat) (x1 : Int32) (x2 : Int32) (Φ : Hp → Int64 → Prop) : Prop := wX8_height_b0 x0 x1 x2 Φ S
set_option maxRecDepth 100000 in
theorem mX8_height {l : Launch} {G : Gw} {S : Hp} {x0 : Nat} {x1 : Int32} {x2 : Int32} {Φ : Hp → Int64 → Prop} (h : wX8_height S x0 x1 x2 Φ) : gM l yX8_height cX8_height 15 (some .long) rm_X8_height [.ref x0, .int x1, .int x2] G S (PJ Φ) := by
  unfold gM
  refine Met.ofW (cc := cX8_height) (maxL := 15) (ret := (some .long)) (by decide) rfl ?_
  intro p e s m args below meth c s₁ B hml hv
  obtain ⟨rfl, hw⟩ := hv
  obtain ⟨C0, Y, hO⟩ := mx_of B hml hw
  have hS : va_S (Ab G.b) s.heap s.heap [] := va_S.rf
  have hl := lv_entry ([.ref x0, .int x1, .int x2]) (n := 15) (Nat.le_of_ble_eq_true rfl)
  rw [lg_entry_eq]
  generalize (lg_sl ([.ref x0, .int x1, .int x2]) ++ List.replicate (15 - (lg_sl ([.ref x0, .int x1, .int x2])).length) Slot.unset).toArray = ls at hl ⊢
  have hl : lv_has ls 15 [(0, .ref x0), (1, .int x1), (2, .int x2)] := hl
  exact bX8_height_b0 C0 Y S _ _ _ h hO hS hl
