def rm_X7_countMoved : Room := { frames := 3, cells := 0, slots := 0, locals := 64 }
def wX7_countMoved_b36 (x0 : Nat) (Φ : Hp → Int32 → Prop) (k4 : Hp → Int32 → Int32 → Prop) (S : Hp) (v1 : Int32) (v2 : Int32) : Prop := k4 S v1 (v2 + 1)
set_option maxHeartbeats 4000000 in
set_option maxRecDepth 100000 in
theorem bX7_countMoved_b36 {p : Program} {l : Launch} {e : Env} {s : State} {m : MethodId} {args : Array Value} {below : List Frame} {meth : Method} {c : Code} {G : Gw} {x0 : Nat} {Φ : Hp → Int32 → Prop} (C0 : Mx p s m c cX7_countMoved 3 args yX7_countMoved.cls G) (Y : My meth (some .int)) {k4 : Hp → Int32 → Int32 → Prop} (hk4 : ∀ (S : Hp) (v1 : Int32) (v2 : Int32) (H : Heap) (locs : List Loc) (ls : Array Slot), k4 S v1 v2 → Ok G S H → va_S (Ab G.b) s.heap H locs → lv_has ls 3 [(0, .ref x0), (1, .int v1), (2, .int v2)] → W p l e rm_X7_countMoved s m args below meth c H locs 0 0 (MQ below (gQ G (PI Φ)) args s rm_X7_countMoved.cells rm_X7_countMoved.slots (Ab G.b)) (F0 m 4 ls [])) : ∀ (S : Hp) (v1 : Int32) (v2 : Int32) (H : Heap) (locs : List Loc) (ls : Array Slot), wX7_countMoved_b36 x0 Φ k4 S v1 v2 → Ok G S H → va_S (Ab G.b) s.heap H locs → lv_has ls 3 [(0, .ref x0), (1, .int v1), (2, .int v2)] → W p l e rm_X7_countMoved s m args below meth c H locs 0 0 (MQ below (gQ G (PI Φ)) args s rm_X7_countMoved.cells rm_X7_countMoved.slots (Ab G.b)) (F0 m 36 ls []) := by
  intro S v1 v2 H locs ls h hO hS hl
  unfold wX7_countMoved_b36 at h
  refine lv_iinc (v := _ + 1) C0.1 C0.2.1 dX7_countMoved_36 hl (k := 2) rfl rfl (by decide) rfl (fun ls hl => ?_)
  refine lv_goto (tgt := 4) C0.1 C0.2.1 dX7_countMoved_39 (by decide) ?_
  exact hk4 _ _ _ _ _ _ h hO hS (lv_sub hl [1, 2, 0] rfl)
def wX7_countMoved_b4 (x0 : Nat) (Φ : Hp → Int32 → Prop) (k4 : Hp → Int32 → Int32 → Prop) (S : Hp) (v1 : Int32) (v2 : Int32) : Prop := isA S x0 7 ∧ (((S.FI 461 x0) ≤ v2 → Φ S v1) ∧ (¬ ((S.FI 461 x0) ≤ v2) → ∃ a3, S.FR 458 x0 = some a3 ∧ isA S a3 6 ∧ ∃ a5, S.FR 384 a3 = some a5 ∧ ∃ a6, S.FR 459 x0 = some a6 ∧ isA S a6 6 ∧ ∃ a8, S.FR 384 a6 = some a8 ∧ isA S a5 4 ∧ wX4_isSame S a5 v2 a8 (fun S9 r10 => ((¬ r10 = 0 → wX7_countMoved_b36 x0 Φ k4 S9 v1 v2) ∧ (r10 = 0 → wX7_countMoved_b36 x0 Φ k4 S9 (v1 + 1) v2)))))
set_option maxHeartbeats 4000000 in
set_option maxRecDepth 100000 in
theorem bX7_countMoved_b4 {p : Program} {l : Launch} {e : Env} {s : State} {m : MethodId} {args : Array Value} {below : List Frame} {meth : Method} {c : Code} {G : Gw} {x0 : Nat} {Φ : Hp → Int32 → Prop} (C0 : Mx p s m c cX7_countMoved 3 args yX7_countMoved.cls G) (Y : My meth (some .int)) {k4 : Hp → Int32 → Int32 → Prop} (hk4 : ∀ (S : Hp) (v1 : Int32) (v2 : Int32) (H : Heap) (locs : List Loc) (ls : Array Slot), k4 S v1 v2 → Ok G S H → va_S (Ab G.b) s.heap H locs → lv_has ls 3 [(0, .ref x0), (1, .int v1), (2, .int v2)] → W p l e rm_X7_countMoved s m args below meth c H locs 0 0 (MQ below (gQ G (PI Φ)) args s rm_X7_countMoved.cells rm_X7_countMoved.slots (Ab G.b)) (F0 m 4 ls [])) : ∀ (S : Hp) (v1 : Int32) (v2 : Int32) (H : Heap) (locs : List Loc) (ls : Array Slot), wX7_countMoved_b4 x0 Φ k4 S v1 v2 → Ok G S H → va_S (Ab G.b) s.heap H locs → lv_has ls 3 [(0, .ref x0), (1, .int v1), (2, .int v2)] → W p l e rm_X7_countMoved s m args below meth c H locs 0 0 (MQ below (gQ G (PI Φ)) args s rm_X7_countMoved.cells rm_X7_countMoved.slots (Ab G.b)) (F0 m 4 ls []) := by
  intro S v1 v2 H locs ls h hO hS hl
  unfold wX7_countMoved_b4 at h
  refine lv_iload_n C0.1 C0.2.1 dX7_countMoved_4 rfl (lv_at hl 2 rfl) ?_
  refine lv_aload_n C0.1 C0.2.1 dX7_countMoved_5 rfl (lv_at hl 0 rfl) ?_
  obtain ⟨i1, h⟩ := h
  refine g7_13 C0 hO i1 tb_148 dX7_countMoved_6 ?_
  refine lv_icmp_ge (tgt := 42) C0.1 C0.2.1 dX7_countMoved_9 (by decide) (fun c2 => ?_) (fun c2 => ?_)
  · have h := h.1 c2
    refine lv_iload_n C0.1 C0.2.1 dX7_countMoved_42 rfl (lv_at hl 1 rfl) ?_
    exact e_I C0 Y hO hS h (Nat.le_refl _) (Nat.le_refl _) dX7_countMoved_43
  · have h := h.2 c2
    refine lv_aload_n C0.1 C0.2.1 dX7_countMoved_12 rfl (lv_at hl 0 rfl) ?_
    obtain ⟨a3, ea3, h⟩ := h
    refine g7_10 C0 hO i1 ea3 tb_145 dX7_countMoved_13 ?_
    obtain ⟨i4, h⟩ := h
    obtain ⟨a5, ea5, h⟩ := h
    refine g6_0 C0 hO i4 ea5 tb_114 dX7_countMoved_16 ?_
    refine lv_iload_n C0.1 C0.2.1 dX7_countMoved_19 rfl (lv_at hl 2 rfl) ?_
    refine lv_aload_n C0.1 C0.2.1 dX7_countMoved_20 rfl (lv_at hl 0 rfl) ?_
    obtain ⟨a6, ea6, h⟩ := h
    refine g7_11 C0 hO i1 ea6 tb_146 dX7_countMoved_21 ?_
    obtain ⟨i7, h⟩ := h
    obtain ⟨a8, ea8, h⟩ := h
    refine g6_0 C0 hO i7 ea8 tb_114 dX7_countMoved_24 ?_
    obtain ⟨i11, h⟩ := h
    refine c_V C0 hO hS (mX4_isSame h) i11 (by decide) rfl rfl tb_425 tb_426 tb_427 tb_31 tb_428 hd_X4_isSame rfl ⟨⟨by decide, by decide⟩, by decide, by decide⟩ hl.1 rfl (Nat.le_of_ble_eq_true rfl) dX7_countMoved_27 (kI (fun r10 S9 H locs h hO hS => ?_))
    refine lv_if_ne (tgt := 36) C0.1 C0.2.1 dX7_countMoved_30 (by decide) (fun c12 => ?_) (fun c12 => ?_)
    · have h := h.1 c12
      exact bX7_countMoved_b36 C0 Y hk4 _ _ _ _ _ _ h hO hS (lv_sub hl [0, 1, 2] rfl)
    · have h := h.2 c12
      refine lv_iinc (v := _ + 1) C0.1 C0.2.1 dX7_countMoved_33 hl (k := 1) rfl rfl (by decide) rfl (fun ls hl => ?_)
      exact bX7_countMoved_b36 C0 Y hk4 _ _ _ _ _ _ h hO hS (lv_sub hl [1, 0, 2] rfl)
set_option maxHeartbeats 4000000 in
set_option maxRecDepth 100000 in
theorem lX7_countMoved_b4 {p : Program} {l : Launch} {e : Env} {s : State} {m : MethodId} {args : Array Value} {below : List Frame} {meth : Method} {c : Code} {G : Gw} {x0 : Nat} {Φ : Hp → Int32 → Prop} (C0 : Mx p s m c cX7_countMoved 3 args yX7_countMoved.cls G) (Y : My meth (some .int))  : ∀ n9 : Nat, ∀ (S : Hp) (v1 : Int32) (v2 : Int32) (H : Heap) (locs : List Loc) (ls : Array Slot), it3 (wX7_countMoved_b4 x0 Φ) n9 S v1 v2 → Ok G S H → va_S (Ab G.b) s.heap H locs → lv_has ls 3 [(0, .ref x0), (1, .int v1), (2, .int v2)] → W p l e rm_X7_countMoved s m args below meth c H locs 0 0 (MQ below (gQ G (PI Φ)) args s rm_X7_countMoved.cells rm_X7_countMoved.slots (Ab G.b)) (F0 m 4 ls []) := by
  intro n9
  induction n9 with
  | zero => intro S v1 v2 H locs ls h; exact (h : False).elim
  | succ n9 ih => intro S v1 v2 H locs ls h hO hS hl; exact bX7_countMoved_b4 C0 Y ih S v1 v2 H locs ls h hO hS hl
def wX7_countMoved_b0 (x0 : Nat) (Φ : Hp → Int32 → Prop) (S : Hp) : Prop := ∃ n, it3 (wX7_countMoved_b4 x0 Φ) n S 0 0
set_option maxHeartbeats 4000000 in
set_option maxRecDepth 100000 in
theorem bX7_countMoved_b0 {p : Program} {l : Launch} {e : Env} {s : State} {m : MethodId} {args : Array Value} {below : List Frame} {meth : Method} {c : Code} {G : Gw} {x0 : Nat} {Φ : Hp → Int32 → Prop} (C0 : Mx p s m c cX7_countMoved 3 args yX7_countMoved.cls G) (Y : My meth (some .int))  : ∀ (S : Hp) (H : Heap) (locs : List Loc) (ls : Array Slot), wX7_countMoved_b0 x0 Φ S → Ok G S H → va_S (Ab G.b) s.heap H locs → lv_has ls 3 [(0, .ref x0)] → W p l e rm_X7_countMoved s m args below meth c H locs 0 0 (MQ below (gQ G (PI Φ)) args s rm_X7_countMoved.cells rm_X7_countMoved.slots (Ab G.b)) (F0 m 0 ls []) := by
  intro S H locs ls h hO hS hl
  unfold wX7_countMoved_b0 at h
  refine lv_iconst (v := 0) C0.1 C0.2.1 dX7_countMoved_0 (by decide) ?_
  refine lv_istore_n C0.1 C0.2.1 dX7_countMoved_1 rfl hl (by decide) rfl (fun ls hl => ?_)
  refine lv_iconst (v := 0) C0.1 C0.2.1 dX7_countMoved_2 (by decide) ?_
  refine lv_istore_n C0.1 C0.2.1 dX7_countMoved_3 rfl hl (by decide) rfl (fun ls hl => ?_)
  obtain ⟨n9, h⟩ := h
  exact lX7_countMoved_b4 C0 Y n9 _ _ _ _ _ _ h hO hS (lv_sub hl [2, 1, 0] rfl)
def wX7_countMoved (S : Hp) (x0 : Nat) (Φ : Hp → Int32 → Prop) : Prop := wX7_countMoved_b0 x0 Φ S
set_option maxRecDepth 100000 in
theorem mX7_countMoved {l : Launch} {G : Gw} {S : Hp} {x0 : Nat} {Φ : Hp → Int32 → Prop} (h : wX7_countMoved S x0 Φ) : gM l yX7_countMoved cX7_countMoved 3 (some .int) rm_X7_countMoved [.ref x0] G S (PI Φ) := by
  unfold gM
  refine Met.ofW (cc := cX7_countMoved) (maxL := 3) (ret := (some .int)) (by decide) rfl ?_
  intro p e s m args below meth c s₁ B hml hv
  obtain ⟨rfl, hw⟩ := hv
  obtain ⟨C0, Y, hO⟩ := mx_of B hml hw
  have hS : va_S (Ab G.b) s.heap s.heap [] := va_S.rf
  have hl := lv_entry ([.ref x0]) (n := 3) (Nat.le_of_ble_eq_true rfl)
  rw [lg_entry_eq]
  generalize (lg_sl ([.ref x0]) ++ List.replicate (3 - (lg_sl ([.ref x0])).length) Slot.unset).toArray = ls at hl ⊢
  have hl : lv_has ls 3 [(0, .ref x0)] := hl
  exact bX7_countMoved_b0 C0 Y S _ _ _ h hO hS hl

def rm_X7_turn : Room := { frames := 7, cells := 3, slots := 18, locals := 132 }
def wX7_turn_b79 (x0 : Nat) (x1 : Int32) (x2 : Int32) (Φ : Hp → Int32 → Prop) (Ψ : Hp → String → Prop) (k56 : Hp → Int32 → Prop) (S : Hp) (v3 : Int32) (z0 : Nat) (z1 : Nat) (z2 : Int32) (z3 : Int32) : Prop := isA S z0 7 ∧ wX7_takeStep S z0 z1 z2 z3 (fun S1 => isA S1 x0 7 ∧ wX7_countWear S1 x0 (fun S3 => isA S3 x0 7 ∧ wX7_strikePins S3 x0 (fun S5 => k56 S5 (v3 + 1))))
set_option maxHeartbeats 4000000 in
set_option maxRecDepth 100000 in
theorem bX7_turn_b79 {p : Program} {l : Launch} {e : Env} {s : State} {m : MethodId} {args : Array Value} {below : List Frame} {meth : Method} {c : Code} {G : Gw} {x0 : Nat} {x1 : Int32} {x2 : Int32} {Φ : Hp → Int32 → Prop} {Ψ : Hp → String → Prop} (C0 : Mx p s m c cX7_turn 4 args yX7_turn.cls G) (Y : My meth (some .int)) (hl9 : l.stackTraces = false) (hx9 : ∀ x ∈ c.exceptionTable.toList, False) {k56 : Hp → Int32 → Prop} (hk56 : ∀ (S : Hp) (v3 : Int32) (H : Heap) (locs : List Loc) (ls : Array Slot) (cells slots : Nat), k56 S v3 → Ok G S H → va_S (Ab G.b) s.heap H locs → lv_has ls 4 [(0, .ref x0), (1, .int x1), (2, .int x2), (3, .int v3)] → cells + (0) ≤ 3 → slots + (0) ≤ 18 → W p l e rm_X7_turn s m args below meth c H locs cells slots (vx_MQ below (gQ G (PI Φ)) (gX G Ψ) args s rm_X7_turn.cells rm_X7_turn.slots (Ab G.b)) (F0 m 56 ls [])) : ∀ (S : Hp) (v3 : Int32) (z0 : Nat) (z1 : Nat) (z2 : Int32) (z3 : Int32) (H : Heap) (locs : List Loc) (ls : Array Slot) (cells slots : Nat), wX7_turn_b79 x0 x1 x2 Φ Ψ k56 S v3 z0 z1 z2 z3 → Ok G S H → va_S (Ab G.b) s.heap H locs → lv_has ls 4 [(0, .ref x0), (1, .int x1), (2, .int x2), (3, .int v3)] → cells + (0) ≤ 3 → slots + (0) ≤ 18 → W p l e rm_X7_turn s m args below meth c H locs cells slots (vx_MQ below (gQ G (PI Φ)) (gX G Ψ) args s rm_X7_turn.cells rm_X7_turn.slots (Ab G.b)) (F0 m 79 ls [.int z3, .int z2, .ref z1, .ref z0]) := by
  intro S v3 z0 z1 z2 z3 H locs ls cells slots h hO hS hl hcc hss
  unfold wX7_turn_b79 at h
  obtain ⟨i2, h⟩ := h
  refine c_V C0 hO hS (mX7_takeStep h) i2 (by decide) rfl rfl tb_340 tb_342 tb_5 tb_27 tb_343 hd_X7_takeStep rfl ⟨⟨by decide, by decide⟩, by show _ + 0 ≤ 3; omega, by show _ + 0 ≤ 18; omega⟩ hl.1 rfl (Nat.le_of_ble_eq_true rfl) dX7_turn_79 (kV (fun S1 H locs h hO hS => ?_))
  change W _ _ _ _ _ _ _ _ _ _ _ _ (_ + 0) (_ + 0) _ _
  refine lv_aload_n C0.1 C0.2.1 dX7_turn_82 rfl (lv_at hl 0 rfl) ?_
  obtain ⟨i4, h⟩ := h
  refine c_V C0 hO hS (mX7_countWear h) i4 (by decide) rfl rfl tb_738 tb_740 tb_20 tb_27 tb_741 hd_X7_countWear rfl ⟨⟨by decide, by decide⟩, by show _ + 0 ≤ 3; omega, by show _ + 0 ≤ 18; omega⟩ hl.1 rfl (Nat.le_of_ble_eq_true rfl) dX7_turn_83 (kV (fun S3 H locs h hO hS => ?_))
  change W _ _ _ _ _ _ _ _ _ _ _ _ (_ + 0) (_ + 0) _ _
  refine lv_aload_n C0.1 C0.2.1 dX7_turn_86 rfl (lv_at hl 0 rfl) ?_
  obtain ⟨i6, h⟩ := h
  refine c_V C0 hO hS (mX7_strikePins h) i6 (by decide) rfl rfl tb_754 tb_756 tb_22 tb_27 tb_757 hd_X7_strikePins rfl ⟨⟨by decide, by decide⟩, by show _ + 0 ≤ 3; omega, by show _ + 0 ≤ 18; omega⟩ hl.1 rfl (Nat.le_of_ble_eq_true rfl) dX7_turn_87 (kV (fun S5 H locs h hO hS => ?_))
  change W _ _ _ _ _ _ _ _ _ _ _ _ (_ + 0) (_ + 0) _ _
  refine lv_iinc (v := _ + 1) C0.1 C0.2.1 dX7_turn_90 hl (k := 3) rfl rfl (by decide) rfl (fun ls hl => ?_)
  refine lv_goto (tgt := 56) C0.1 C0.2.1 dX7_turn_93 (by decide) ?_
  exact hk56 _ _ _ _ _ _ _ h hO hS (lv_sub hl [1, 2, 3, 0] rfl) (by omega) (by omega)
def wX7_turn_b56 (x0 : Nat) (x1 : Int32) (x2 : Int32) (Φ : Hp → Int32 → Prop) (Ψ : Hp → String → Prop) (k56 : Hp → Int32 → Prop) (S : Hp) (v3 : Int32) : Prop := (((if 0 ≤ x2 then x2 else 0 - x2) ≤ v3 → isA S x0 7 ∧ wX7_breakWornLinks S x0 (fun S2 => isA S2 x0 7 ∧ wX7_countMoved S2 x0 (fun S4 r5 => Φ S4 r5))) ∧ (¬ ((if 0 ≤ x2 then x2 else 0 - x2) ≤ v3) → isA S x0 7 ∧ ∃ a8, S.FR 458 x0 = some a8 ∧ ((0 ≤ x2 → wX7_turn_b79 x0 x1 x2 Φ Ψ k56 S v3 x0 a8 x1 1) ∧ (¬ (0 ≤ x2) → wX7_turn_b79 x0 x1 x2 Φ Ψ k56 S v3 x0 a8 x1 (-1)))))
set_option maxHeartbeats 4000000 in
set_option maxRecDepth 100000 in
theorem bX7_turn_b56 {p : Program} {l : Launch} {e : Env} {s : State} {m : MethodId} {args : Array Value} {below : List Frame} {meth : Method} {c : Code} {G : Gw} {x0 : Nat} {x1 : Int32} {x2 : Int32} {Φ : Hp → Int32 → Prop} {Ψ : Hp → String → Prop} (C0 : Mx p s m c cX7_turn 4 args yX7_turn.cls G) (Y : My meth (some .int)) (hl9 : l.stackTraces = false) (hx9 : ∀ x ∈ c.exceptionTable.toList, False) {k56 : Hp → Int32 → Prop} (hk56 : ∀ (S : Hp) (v3 : Int32) (H : Heap) (locs : List Loc) (ls : Array Slot) (cells slots : Nat), k56 S v3 → Ok G S H → va_S (Ab G.b) s.heap H locs → lv_has ls 4 [(0, .ref x0), (1, .int x1), (2, .int x2), (3, .int v3)] → cells + (0) ≤ 3 → slots + (0) ≤ 18 → W p l e rm_X7_turn s m args below meth c H locs cells slots (vx_MQ below (gQ G (PI Φ)) (gX G Ψ) args s rm_X7_turn.cells rm_X7_turn.slots (Ab G.b)) (F0 m 56 ls [])) : ∀ (S : Hp) (v3 : Int32) (H : Heap) (locs : List Loc) (ls : Array Slot) (cells slots : Nat), wX7_turn_b56 x0 x1 x2 Φ Ψ k56 S v3 → Ok G S H → va_S (Ab G.b) s.heap H locs → lv_has ls 4 [(0, .ref x0), (1, .int x1), (2, .int x2), (3, .int v3)] → cells + (0) ≤ 3 → slots + (0) ≤ 18 → W p l e rm_X7_turn s m args below meth c H locs cells slots (vx_MQ below (gQ G (PI Φ)) (gX G Ψ) args s rm_X7_turn.cells rm_X7_turn.slots (Ab G.b)) (F0 m 56 ls []) := by
  intro S v3 H locs ls cells slots h hO hS hl hcc hss
  unfold wX7_turn_b56 at h
  refine lv_iload_n C0.1 C0.2.1 dX7_turn_56 rfl (lv_at hl 3 rfl) ?_
  refine lv_iload_n C0.1 C0.2.1 dX7_turn_57 rfl (lv_at hl 2 rfl) ?_
  refine va_mabs C0.1 C0.2.1 (C0.2.2.1.trans hl.1.symm) C0.2.2.2.1 (C0.2.2.2.2.1 _ tb_337) (C0.2.2.2.2.1 _ tb_338) (C0.2.2.2.2.1 _ tb_42) (C0.2.2.2.2.1 _ tb_339) (Nat.le_of_ble_eq_true rfl) (Nat.le_of_ble_eq_true rfl) (by show _ ≤ 3; omega) (by show _ ≤ 18; omega) dX7_turn_58 ?_
  refine lv_icmp_ge (tgt := 96) C0.1 C0.2.1 dX7_turn_61 (by decide) (fun c1 => ?_) (fun c1 => ?_)
  · have h := h.1 c1
    refine lv_aload_n C0.1 C0.2.1 dX7_turn_96 rfl (lv_at hl 0 rfl) ?_
    obtain ⟨i3, h⟩ := h
    refine c_V C0 hO hS (mX7_breakWornLinks h) i3 (by decide) rfl rfl tb_778 tb_780 tb_24 tb_27 tb_781 hd_X7_breakWornLinks rfl ⟨⟨by decide, by decide⟩, by show _ + 0 ≤ 3; omega, by show _ + 0 ≤ 18; omega⟩ hl.1 rfl (Nat.le_of_ble_eq_true rfl) dX7_turn_97 (kV (fun S2 H locs h hO hS => ?_))
    change W _ _ _ _ _ _ _ _ _ _ _ _ (_ + 0) (_ + 0) _ _
    refine lv_aload_n C0.1 C0.2.1 dX7_turn_100 rfl (lv_at hl 0 rfl) ?_
    obtain ⟨i6, h⟩ := h
    refine c_V C0 hO hS (mX7_countMoved h) i6 (by decide) rfl rfl tb_786 tb_788 tb_25 tb_27 tb_789 hd_X7_countMoved rfl ⟨⟨by decide, by decide⟩, by show _ + 0 ≤ 3; omega, by show _ + 0 ≤ 18; omega⟩ hl.1 rfl (Nat.le_of_ble_eq_true rfl) dX7_turn_101 (kI (fun r5 S4 H locs h hO hS => ?_))
    change W _ _ _ _ _ _ _ _ _ _ _ _ (_ + 0) (_ + 0) _ _
    refine vx_ret ?_
    exact e_I C0 Y hO hS h (by show _ ≤ 3; omega) (by show _ ≤ 18; omega) dX7_turn_104
  · have h := h.2 c1
    refine lv_aload_n C0.1 C0.2.1 dX7_turn_64 rfl (lv_at hl 0 rfl) ?_
    refine lv_aload_n C0.1 C0.2.1 dX7_turn_65 rfl (lv_at hl 0 rfl) ?_
    obtain ⟨i7, h⟩ := h
    obtain ⟨a8, ea8, h⟩ := h
    refine g7_10 C0 hO i7 ea8 tb_145 dX7_turn_66 ?_
    refine lv_iload_n C0.1 C0.2.1 dX7_turn_69 rfl (lv_at hl 1 rfl) ?_
    refine lv_iload_n C0.1 C0.2.1 dX7_turn_70 rfl (lv_at hl 2 rfl) ?_
    refine lv_if_ge (tgt := 78) C0.1 C0.2.1 dX7_turn_71 (by decide) (fun c9 => ?_) (fun c9 => ?_)
    · have h := h.1 c9
      refine lv_iconst (v := 1) C0.1 C0.2.1 dX7_turn_78 (by decide) ?_
      exact bX7_turn_b79 C0 Y hl9 hx9 hk56 _ _ _ _ _ _ _ _ _ _ _ h hO hS (lv_sub hl [0, 1, 2, 3] rfl) (by omega) (by omega)
    · have h := h.2 c9
      refine lv_iconst (v := (-1)) C0.1 C0.2.1 dX7_turn_74 (by decide) ?_
      refine lv_goto (tgt := 79) C0.1 C0.2.1 dX7_turn_75 (by decide) ?_
      exact bX7_turn_b79 C0 Y hl9 hx9 hk56 _ _ _ _ _ _ _ _ _ _ _ h hO hS (lv_sub hl [0, 1, 2, 3] rfl) (by omega) (by omega)
set_option maxHeartbeats 4000000 in
set_option maxRecDepth 100000 in
theorem lX7_turn_b56 {p : Program} {l : Launch} {e : Env} {s : State} {m : MethodId} {args : Array Value} {below : List Frame} {meth : Method} {c : Code} {G : Gw} {x0 : Nat} {x1 : Int32} {x2 : Int32} {Φ : Hp → Int32 → Prop} {Ψ : Hp → String → Prop} (C0 : Mx p s m c cX7_turn 4 args yX7_turn.cls G) (Y : My meth (some .int)) (hl9 : l.stackTraces = false) (hx9 : ∀ x ∈ c.exceptionTable.toList, False)  : ∀ n9 : Nat, ∀ (S : Hp) (v3 : Int32) (H : Heap) (locs : List Loc) (ls : Array Slot) (cells slots : Nat), it2 (wX7_turn_b56 x0 x1 x2 Φ Ψ) n9 S v3 → Ok G S H → va_S (Ab G.b) s.heap H locs → lv_has ls 4 [(0, .ref x0), (1, .int x1), (2, .int x2), (3, .int v3)] → cells + (0) ≤ 3 → slots + (0) ≤ 18 → W p l e rm_X7_turn s m args below meth c H locs cells slots (vx_MQ below (gQ G (PI Φ)) (gX G Ψ) args s rm_X7_turn.cells rm_X7_turn.slots (Ab G.b)) (F0 m 56 ls []) := by
  intro n9
  induction n9 with
  | zero => intro S v3 H locs ls cells slots h; exact (h : False).elim
  | succ n9 ih => intro S v3 H locs ls cells slots h hO hS hl hcc hss; exact bX7_turn_b56 C0 Y hl9 hx9 ih S v3 H locs ls cells slots h hO hS hl (by omega) (by omega)
def wX7_turn_b0 (x0 : Nat) (x1 : Int32) (x2 : Int32) (Φ : Hp → Int32 → Prop) (Ψ : Hp → String → Prop) (S : Hp) : Prop := isA S x0 7 ∧ wX7_checkShaft S x0 x1 (fun S1 => wX7_checkRange S1 x2 (-48) 48 (fun S3 => isA S3 x0 7 ∧ ∃ a5, S3.FR 452 x0 = some a5 ∧ isA S3 a5 21 ∧ vp_in x1 (S3.N a5) ∧ (((S3.AI a5 x1.toNatClampNeg) = (-1) → ∃ a9, S3.FR 459 x0 = some a9 ∧ ∃ a10, S3.FR 458 x0 = some a10 ∧ isA S3 a9 6 ∧ wX6_copyFrom S3 a9 a10 (fun S11 => isA S11 x0 7 ∧ ∀ S14, S14 = S11.setFI 462 x0 x1 → ∀ S15, S15 = S14.setFI 463 x0 x2 → ∃ n, it2 (wX7_turn_b56 x0 x1 x2 Φ Ψ) n S15 0)) ∧ (¬ ((S3.AI a5 x1.toNatClampNeg) = (-1)) → Ψ S3 "java/lang/UnsupportedOperationException"))) Ψ) Ψ
set_option maxHeartbeats 4000000 in
set_option maxRecDepth 100000 in
theorem bX7_turn_b0 {p : Program} {l : Launch} {e : Env} {s : State} {m : MethodId} {args : Array Value} {below : List Frame} {meth : Method} {c : Code} {G : Gw} {x0 : Nat} {x1 : Int32} {x2 : Int32} {Φ : Hp → Int32 → Prop} {Ψ : Hp → String → Prop} (C0 : Mx p s m c cX7_turn 4 args yX7_turn.cls G) (Y : My meth (some .int)) (hl9 : l.stackTraces = false) (hx9 : ∀ x ∈ c.exceptionTable.toList, False)  : ∀ (S : Hp) (H : Heap) (locs : List Loc) (ls : Array Slot) (cells slots : Nat), wX7_turn_b0 x0 x1 x2 Φ Ψ S → Ok G S H → va_S (Ab G.b) s.heap H locs → lv_has ls 4 [(0, .ref x0), (1, .int x1), (2, .int x2)] → cells + (3) ≤ 3 → slots + (18) ≤ 18 → W p l e rm_X7_turn s m args below meth c H locs cells slots (vx_MQ below (gQ G (PI Φ)) (gX G Ψ) args s rm_X7_turn.cells rm_X7_turn.slots (Ab G.b)) (F0 m 0 ls []) := by
  intro S H locs ls cells slots h hO hS hl hcc hss
  unfold wX7_turn_b0 at h
  refine lv_aload_n C0.1 C0.2.1 dX7_turn_0 rfl (lv_at hl 0 rfl) ?_
  refine lv_iload_n C0.1 C0.2.1 dX7_turn_1 rfl (lv_at hl 1 rfl) ?_
  obtain ⟨i2, h⟩ := h
  refine x_V C0 Y.2 hx9 hO hS (mX7_checkShaft hl9 h) i2 (by decide) rfl rfl tb_547 tb_549 tb_14 tb_27 tb_550 hd_X7_checkShaft rfl ⟨⟨by decide, by decide⟩, by show _ + 1 ≤ 3; omega, by show _ + 6 ≤ 18; omega⟩ hl.1 rfl (Nat.le_of_ble_eq_true rfl) dX7_turn_2 (by show _ + 1 ≤ 3; omega) (by show _ + 6 ≤ 18; omega) (kV (fun S1 H locs h hO hS => ?_))
  change W _ _ _ _ _ _ _ _ _ _ _ _ (_ + 1) (_ + 6) _ _
  refine lv_iload_n C0.1 C0.2.1 dX7_turn_5 rfl (lv_at hl 2 rfl) ?_
  refine lv_bipush (v := (-48)) C0.1 C0.2.1 dX7_turn_6 (by decide) ?_
  refine lv_bipush (v := 48) C0.1 C0.2.1 dX7_turn_8 (by decide) ?_
  refine x_S C0 Y.2 hx9 hO hS (mX7_checkRange hl9 h) tb_726 tb_727 tb_27 tb_728 hd_X7_checkRange rfl ⟨⟨by decide, by decide⟩, by show _ + 1 ≤ 3; omega, by show _ + 6 ≤ 18; omega⟩ hl.1 rfl (Nat.le_of_ble_eq_true rfl) dX7_turn_10 (by show _ + 1 ≤ 3; omega) (by show _ + 6 ≤ 18; omega) (kV (fun S3 H locs h hO hS => ?_))
  change W _ _ _ _ _ _ _ _ _ _ _ _ (_ + 1) (_ + 6) _ _
  refine lv_aload_n C0.1 C0.2.1 dX7_turn_13 rfl (lv_at hl 0 rfl) ?_
  obtain ⟨i4, h⟩ := h
  obtain ⟨a5, ea5, h⟩ := h
  refine g7_4 C0 hO i4 ea5 tb_139 dX7_turn_14 ?_
  refine lv_iload_n C0.1 C0.2.1 dX7_turn_17 rfl (lv_at hl 1 rfl) ?_
  obtain ⟨i6, h⟩ := h
  obtain ⟨e7, h⟩ := h
  refine r_iald C0 hO i6 e7 dX7_turn_18 ?_
  refine lv_iconst (v := (-1)) C0.1 C0.2.1 dX7_turn_19 (by decide) ?_
  refine lv_icmp_eq (tgt := 33) C0.1 C0.2.1 dX7_turn_20 (by decide) (fun c8 => ?_) (fun c8 => ?_)
  · have h := h.1 c8
    refine lv_aload_n C0.1 C0.2.1 dX7_turn_33 rfl (lv_at hl 0 rfl) ?_
    obtain ⟨a9, ea9, h⟩ := h
    refine g7_11 C0 hO i4 ea9 tb_146 dX7_turn_34 ?_
    refine lv_aload_n C0.1 C0.2.1 dX7_turn_37 rfl (lv_at hl 0 rfl) ?_
    obtain ⟨a10, ea10, h⟩ := h
    refine g7_10 C0 hO i4 ea10 tb_145 dX7_turn_38 ?_
    obtain ⟨i12, h⟩ := h
    refine c_V C0 hO hS (mX6_copyFrom h) i12 (by decide) rfl rfl tb_323 tb_324 tb_325 tb_33 tb_326 hd_X6_copyFrom rfl ⟨⟨by decide, by decide⟩, by show _ + 0 ≤ 3; omega, by show _ + 0 ≤ 18; omega⟩ hl.1 rfl (Nat.le_of_ble_eq_true rfl) dX7_turn_41 (kV (fun S11 H locs h hO hS => ?_))
    change W _ _ _ _ _ _ _ _ _ _ _ _ (_ + 0) (_ + 0) _ _
    refine lv_aload_n C0.1 C0.2.1 dX7_turn_44 rfl (lv_at hl 0 rfl) ?_
    refine lv_iload_n C0.1 C0.2.1 dX7_turn_45 rfl (lv_at hl 1 rfl) ?_
    obtain ⟨i13, h⟩ := h
    refine p7_14 C0 hO hS i13 tb_149 dX7_turn_46 (fun H locs hO hS => ?_)
    have h := h _ rfl
    refine lv_aload_n C0.1 C0.2.1 dX7_turn_49 rfl (lv_at hl 0 rfl) ?_
    refine lv_iload_n C0.1 C0.2.1 dX7_turn_50 rfl (lv_at hl 2 rfl) ?_
    refine p7_15 C0 hO hS (sA_FI i13) tb_150 dX7_turn_51 (fun H locs hO hS => ?_)
    have h := h _ rfl
    refine lv_iconst (v := 0) C0.1 C0.2.1 dX7_turn_54 (by decide) ?_
    refine lv_istore_n C0.1 C0.2.1 dX7_turn_55 rfl hl (by decide) rfl (fun ls hl => ?_)
    obtain ⟨n9, h⟩ := h
    exact lX7_turn_b56 C0 Y hl9 hx9 n9 _ _ _ _ _ _ _ h hO hS (lv_sub hl [1, 2, 3, 0] rfl) (by omega) (by omega)
  · have h := h.2 c8
    exact t_S (text := "the shaft is driven") (names := xnm) C0 hl9 Y.2 hx9 hO hS xf_UnsupportedOperationException xnm_ok tb_574 tb_41 (by decide +kernel) xat_100 xgd_10000096 hl.1 h dX7_turn_23 dX7_turn_26 dX7_turn_27 dX7_turn_29 dX7_turn_32 (Nat.le_of_ble_eq_true rfl) (Nat.le_of_ble_eq_true rfl) (by show _ ≤ 3; omega) (by show _ ≤ 18; omega) (by show _ ≤ 3; omega) (by show _ ≤ 18; omega)
def wX7_turn (S : Hp) (x0 : Nat) (x1 : Int32) (x2 : Int32) (Φ : Hp → Int32 → Prop) (Ψ : Hp → String → Prop) : Prop := wX7_turn_b0 x0 x1 x2 Φ Ψ S
set_option maxRecDepth 100000 in
theorem mX7_turn {l : Launch} {G : Gw} (hl9 : l.stackTraces = false) {S : Hp} {x0 : Nat} {x1 : Int32} {x2 : Int32} {Φ : Hp → Int32 → Prop} {Ψ : Hp → String → Prop} (h : wX7_turn S x0 x1 x2 Φ Ψ) : gT l yX7_turn cX7_turn 4 (some .int) rm_X7_turn [.ref x0, .int x1, .int x2] G S (PI Φ) Ψ := by
  unfold gT
  refine vx_ofW (cc := cX7_turn) (maxL := 4) (ret := (some .int)) (by decide) rfl ?_
  intro p e s m args below meth c s₁ B hml hx9 hv
  obtain ⟨rfl, hw⟩ := hv
  obtain ⟨C0, Y, hO⟩ := mx_of B hml hw
  have hS : va_S (Ab G.b) s.heap s.heap [] := va_S.rf
  have hl := lv_entry ([.ref x0, .int x1, .int x2]) (n := 4) (Nat.le_of_ble_eq_true rfl)
  rw [lg_entry_eq]
  generalize (lg_sl ([.ref x0, .int x1, .int x2]) ++ List.replicate (4 - (lg_sl ([.ref x0, .int x1, .int x2])).length) Slot.unset).toArray = ls at hl ⊢
  have hl : lv_has ls 4 [(0, .ref x0), (1, .int x1), (2, .int x2)] := hl
  exact bX7_turn_b0 C0 Y hl9 hx9 S _ _ _ 0 0 h hO hS hl (by decide) (by decide)

def rm_X7_placeOver : Room := { frames := 7, cells := 1, slots := 6, locals := 111 }
def wX7_placeOver_b0 (x0 : Nat) (x1 : Int32) (Φ : Hp → Int64 → Prop) (Ψ : Hp → String → Prop) (S : Hp) : Prop := isA S x0 7 ∧ wX7_checkShaft S x0 x1 (fun S1 => isA S1 x0 7 ∧ ∃ a4, S1.FR 458 x0 = some a4 ∧ isA S1 a4 6 ∧ ∃ a6, S1.FR 384 a4 = some a6 ∧ isA S1 a6 4 ∧ wX4_overAt S1 a6 x1 (fun S7 r8 => Φ S7 r8)) Ψ
set_option maxHeartbeats 4000000 in
set_option maxRecDepth 100000 in
theorem bX7_placeOver_b0 {p : Program} {l : Launch} {e : Env} {s : State} {m : MethodId} {args : Array Value} {below : List Frame} {meth : Method} {c : Code} {G : Gw} {x0 : Nat} {x1 : Int32} {Φ : Hp → Int64 → Prop} {Ψ : Hp → String → Prop} (C0 : Mx p s m c cX7_placeOver 2 args yX7_placeOver.cls G) (Y : My meth (some .long)) (hl9 : l.stackTraces = false) (hx9 : ∀ x ∈ c.exceptionTable.toList, False)  : ∀ (S : Hp) (H : Heap) (locs : List Loc) (ls : Array Slot) (cells slots : Nat), wX7_placeOver_b0 x0 x1 Φ Ψ S → Ok G S H → va_S (Ab G.b) s.heap H locs → lv_has ls 2 [(0, .ref x0), (1, .int x1)] → cells + (1) ≤ 1 → slots + (6) ≤ 6 → W p l e rm_X7_placeOver s m args below meth c H locs cells slots (vx_MQ below (gQ G (PJ Φ)) (gX G Ψ) args s rm_X7_placeOver.cells rm_X7_placeOver.slots (Ab G.b)) (F0 m 0 ls []) := by
  intro S H locs ls cells slots h hO hS hl hcc hss
  unfold wX7_placeOver_b0 at h
  refine lv_aload_n C0.1 C0.2.1 dX7_placeOver_0 rfl (lv_at hl 0 rfl) ?_
  refine lv_iload_n C0.1 C0.2.1 dX7_placeOver_1 rfl (lv_at hl 1 rfl) ?_
  obtain ⟨i2, h⟩ := h
  refine x_V C0 Y.2 hx9 hO hS (mX7_checkShaft hl9 h) i2 (by decide) rfl rfl tb_547 tb_549 tb_14 tb_27 tb_550 hd_X7_checkShaft rfl ⟨⟨by decide, by decide⟩, by show _ + 1 ≤ 1; omega, by show _ + 6 ≤ 6; omega⟩ hl.1 rfl (Nat.le_of_ble_eq_true rfl) dX7_placeOver_2 (by show _ + 1 ≤ 1; omega) (by show _ + 6 ≤ 6; omega) (kV (fun S1 H locs h hO hS => ?_))
  change W _ _ _ _ _ _ _ _ _ _ _ _ (_ + 1) (_ + 6) _ _
  refine lv_aload_n C0.1 C0.2.1 dX7_placeOver_5 rfl (lv_at hl 0 rfl) ?_
  obtain ⟨i3, h⟩ := h
  obtain ⟨a4, ea4, h⟩ := h
  refine g7_10 C0 hO i3 ea4 tb_145 dX7_placeOver_6 ?_
  obtain ⟨i5, h⟩ := h
  obtain ⟨a6, ea6, h⟩ := h
  refine g6_0 C0 hO i5 ea6 tb_114 dX7_placeOver_9 ?_
  refine lv_iload_n C0.1 C0.2.1 dX7_placeOver_12 rfl (lv_at hl 1 rfl) ?_
  obtain ⟨i9, h⟩ := h
  refine c_V C0 hO hS (mX4_overAt h) i9 (by decide) rfl rfl tb_748 tb_384 tb_385 tb_31 tb_386 hd_X4_overAt rfl ⟨⟨by decide, by decide⟩, by show _ + 0 ≤ 1; omega, by show _ + 0 ≤ 6; omega⟩ hl.1 rfl (Nat.le_of_ble_eq_true rfl) dX7_placeOver_13 (kJ (fun r8 S7 H locs h hO hS => ?_))
  change W _ _ _ _ _ _ _ _ _ _ _ _ (_ + 0) (_ + 0) _ _
  refine vx_ret ?_
  exact e_J C0 Y hO hS h (by show _ ≤ 1; omega) (by show _ ≤ 6; omega) dX7_placeOver_16
def wX7_placeOver (S : Hp) (x0 : Nat) (x1 : Int32) (Φ : Hp → Int64 → Prop) (Ψ : Hp → String → Prop) : Prop := wX7_placeOver_b0 x0 x1 Φ Ψ S
set_option maxRecDepth 100000 in
theorem mX7_placeOver {l : Launch} {G : Gw} (hl9 : l.stackTraces = false) {S : Hp} {x0 : Nat} {x1 : Int32} {Φ : Hp → Int64 → Prop} {Ψ : Hp → String → Prop} (h : wX7_placeOver S x0 x1 Φ Ψ) : gT l yX7_placeOver cX7_placeOver 2 (some .long) rm_X7_placeOver [.ref x0, .int x1] G S (PJ Φ) Ψ := by
  unfold gT
  refine vx_ofW (cc := cX7_placeOver) (maxL := 2) (ret := (some .long)) (by decide) rfl ?_
  intro p e s m args below meth c s₁ B hml hx9 hv
  obtain ⟨rfl, hw⟩ := hv
  obtain ⟨C0, Y, hO⟩ := mx_of B hml hw
  have hS : va_S (Ab G.b) s.heap s.heap [] := va_S.rf
  have hl := lv_entry ([.ref x0, .int x1]) (n := 2) (Nat.le_of_ble_eq_true rfl)
  rw [lg_entry_eq]
  generalize (lg_sl ([.ref x0, .int x1]) ++ List.replicate (2 - (lg_sl ([.ref x0, .int x1])).length) Slot.unset).toArray = ls at hl ⊢
  have hl : lv_has ls 2 [(0, .ref x0), (1, .int x1)] := hl
  exact bX7_placeOver_b0 C0 Y hl9 hx9 S _ _ _ 0 0 h hO hS hl (by decide) (by decide)

def rm_X7_placeUnder : Room := { frames := 7, cells := 1, slots := 6, locals := 111 }
def wX7_placeUnder_b0 (x0 : Nat) (x1 : Int32) (Φ : Hp → Int64 → Prop) (Ψ : Hp → String → Prop) (S : Hp) : Prop := isA S x0 7 ∧ wX7_checkShaft S x0 x1 (fun S1 => isA S1 x0 7 ∧ ∃ a4, S1.FR 458 x0 = some a4 ∧ isA S1 a4 6 ∧ ∃ a6, S1.FR 384 a4 = some a6 ∧ isA S1 a6 4 ∧ wX4_underAt S1 a6 x1 (fun S7 r8 => Φ S7 r8)) Ψ
set_option maxHeartbeats 4000000 in
set_option maxRecDepth 100000 in
theorem bX7_placeUnder_b0 {p : Program} {l : Launch} {e : Env} {s : State} {m : MethodId} {args : Array Value} {below : List Frame} {meth : Method} {c : Code} {G : Gw} {x0 : Nat} {x1 : Int32} {Φ : Hp → Int64 → Prop} {Ψ : Hp → String → Prop} (C0 : Mx p s m c cX7_placeUnder 2 args yX7_placeUnder.cls G) (Y : My meth (some .long)) (hl9 : l.stackTraces = false) (hx9 : ∀ x ∈ c.exceptionTable.toList, False)  : ∀ (S : Hp) (H : Heap) (locs : List Loc) (ls : Array Slot) (cells slots : Nat), wX7_placeUnder_b0 x0 x1 Φ Ψ S → Ok G S H → va_S (Ab G.b) s.heap H locs → lv_has ls 2 [(0, .ref x0), (1, .int x1)] → cells + (1) ≤ 1 → slots + (6) ≤ 6 → W p l e rm_X7_placeUnder s m args below meth c H locs cells slots (vx_MQ below (gQ G (PJ Φ)) (gX G Ψ) args s rm_X7_placeUnder.cells rm_X7_placeUnder.slots (Ab G.b)) (F0 m 0 ls []) := by
  intro S H locs ls cells slots h hO hS hl hcc hss
  unfold wX7_placeUnder_b0 at h
  refine lv_aload_n C0.1 C0.2.1 dX7_placeUnder_0 rfl (lv_at hl 0 rfl) ?_
  refine lv_iload_n C0.1 C0.2.1 dX7_placeUnder_1 rfl (lv_at hl 1 rfl) ?_
  obtain ⟨i2, h⟩ := h
  refine x_V C0 Y.2 hx9 hO hS (mX7_checkShaft hl9 h) i2 (by decide) rfl rfl tb_547 tb_549 tb_14 tb_27 tb_550 hd_X7_checkShaft rfl ⟨⟨by decide, by decide⟩, by show _ + 1 ≤ 1; omega, by show _ + 6 ≤ 6; omega⟩ hl.1 rfl (Nat.le_of_ble_eq_true rfl) dX7_placeUnder_2 (by show _ + 1 ≤ 1; omega) (by show _ + 6 ≤ 6; omega) (kV (fun S1 H locs h hO hS => ?_))
  change W _ _ _ _ _ _ _ _ _ _ _ _ (_ + 1) (_ + 6) _ _
  refine lv_aload_n C0.1 C0.2.1 dX7_placeUnder_5 rfl (lv_at hl 0 rfl) ?_
  obtain ⟨i3, h⟩ := h
  obtain ⟨a4, ea4, h⟩ := h
  refine g7_10 C0 hO i3 ea4 tb_145 dX7_placeUnder_6 ?_
  obtain ⟨i5, h⟩ := h
  obtain ⟨a6, ea6, h⟩ := h
  refine g6_0 C0 hO i5 ea6 tb_114 dX7_placeUnder_9 ?_
  refine lv_iload_n C0.1 C0.2.1 dX7_placeUnder_12 rfl (lv_at hl 1 rfl) ?_
  obtain ⟨i9, h⟩ := h
  refine c_V C0 hO hS (mX4_underAt h) i9 (by decide) rfl rfl tb_752 tb_411 tb_412 tb_31 tb_413 hd_X4_underAt rfl ⟨⟨by decide, by decide⟩, by show _ + 0 ≤ 1; omega, by show _ + 0 ≤ 6; omega⟩ hl.1 rfl (Nat.le_of_ble_eq_true rfl) dX7_placeUnder_13 (kJ (fun r8 S7 H locs h hO hS => ?_))
  change W _ _ _ _ _ _ _ _ _ _ _ _ (_ + 0) (_ + 0) _ _
  refine vx_ret ?_
  exact e_J C0 Y hO hS h (by show _ ≤ 1; omega) (by show _ ≤ 6; omega) dX7_placeUnder_16
def wX7_placeUnder (S : Hp) (x0 : Nat) (x1 : Int32) (Φ : Hp → Int64 → Prop) (Ψ : Hp → String → Prop) : Prop := wX7_placeUnder_b0 x0 x1 Φ Ψ S
set_option maxRecDepth 100000 in
theorem mX7_placeUnder {l : Launch} {G : Gw} (hl9 : l.stackTraces = false) {S : Hp} {x0 : Nat} {x1 : Int32} {Φ : Hp → Int64 → Prop} {Ψ : Hp → String → Prop} (h : wX7_placeUnder S x0 x1 Φ Ψ) : gT l yX7_placeUnder cX7_placeUnder 2 (some .long) rm_X7_placeUnder [.ref x0, .int x1] G S (PJ Φ) Ψ := by
  unfold gT
  refine vx_ofW (cc := cX7_placeUnder) (maxL := 2) (ret := (some .long)) (by decide) rfl ?_
  intro p e s m args below meth c s₁ B hml hx9 hv
  obtain ⟨rfl, hw⟩ := hv
  obtain ⟨C0, Y, hO⟩ := mx_of B hml hw
  have hS : va_S (Ab G.b) s.heap s.heap [] := va_S.rf
  have hl := lv_entry ([.ref x0, .int x1]) (n := 2) (Nat.le_of_ble_eq_true rfl)
  rw [lg_entry_eq]
  generalize (lg_sl ([.ref x0, .int x1]) ++ List.replicate (2 - (lg_sl ([.ref x0, .int x1])).length) Slot.unset).toArray = ls at hl ⊢
  have hl : lv_has ls 2 [(0, .ref x0), (1, .int x1)] := hl
  exact bX7_placeUnder_b0 C0 Y hl9 hx9 S _ _ _ 0 0 h hO hS hl (by decide) (by decide)

def rm_X7_driver : Room := { frames := 7, cells := 2, slots := 12, locals := 111 }
def wX7_driver_b0 (x0 : Nat) (x1 : Int32) (Φ : Hp → Int32 → Prop) (Ψ : Hp → String → Prop) (S : Hp) : Prop := isA S x0 7 ∧ wX7_checkShaft S x0 x1 (fun S1 => isA S1 x0 7 ∧ ∃ a4, S1.FR 452 x0 = some a4 ∧ isA S1 a4 21 ∧ vp_in x1 (S1.N a4) ∧ ((¬ (S1.AI a4 x1.toNatClampNeg) = (-1) → ∃ a8, S1.FR 452 x0 = some a8 ∧ isA S1 a8 21 ∧ vp_in x1 (S1.N a8) ∧ Φ S1 (S1.AI a8 x1.toNatClampNeg)) ∧ ((S1.AI a4 x1.toNatClampNeg) = (-1) → Ψ S1 "java/util/NoSuchElementException"))) Ψ
set_option maxHeartbeats 4000000 in
set_option maxRecDepth 100000 in
theorem bX7_driver_b0 {p : Program} {l : Launch} {e : Env} {s : State} {m : MethodId} {args : Array Value} {below : List Frame} {meth : Method} {c : Code} {G : Gw} {x0 : Nat} {x1 : Int32} {Φ : Hp → Int32 → Prop} {Ψ : Hp → String → Prop} (C0 : Mx p s m c cX7_driver 2 args yX7_driver.cls G) (Y : My meth (some .int)) (hl9 : l.stackTraces = false) (hx9 : ∀ x ∈ c.exceptionTable.toList, False)  : ∀ (S : Hp) (H : Heap) (locs : List Loc) (ls : Array Slot) (cells slots : Nat), wX7_driver_b0 x0 x1 Φ Ψ S → Ok G S H → va_S (Ab G.b) s.heap H locs → lv_has ls 2 [(0, .ref x0), (1, .int x1)] → cells + (2) ≤ 2 → slots + (12) ≤ 12 → W p l e rm_X7_driver s m args below meth c H locs cells slots (vx_MQ below (gQ G (PI Φ)) (gX G Ψ) args s rm_X7_driver.cells rm_X7_driver.slots (Ab G.b)) (F0 m 0 ls []) := by
  intro S H locs ls cells slots h hO hS hl hcc hss
  unfold wX7_driver_b0 at h
  refine lv_aload_n C0.1 C0.2.1 dX7_driver_0 rfl (lv_at hl 0 rfl) ?_
  refine lv_iload_n C0.1 C0.2.1 dX7_driver_1 rfl (lv_at hl 1 rfl) ?_
  obtain ⟨i2, h⟩ := h
  refine x_V C0 Y.2 hx9 hO hS (mX7_checkShaft hl9 h) i2 (by decide) rfl rfl tb_547 tb_549 tb_14 tb_27 tb_550 hd_X7_checkShaft rfl ⟨⟨by decide, by decide⟩, by show _ + 1 ≤ 2; omega, by show _ + 6 ≤ 12; omega⟩ hl.1 rfl (Nat.le_of_ble_eq_true rfl) dX7_driver_2 (by show _ + 1 ≤ 2; omega) (by show _ + 6 ≤ 12; omega) (kV (fun S1 H locs h hO hS => ?_))
  change W _ _ _ _ _ _ _ _ _ _ _ _ (_ + 1) (_ + 6) _ _
  refine lv_aload_n C0.1 C0.2.1 dX7_driver_5 rfl (lv_at hl 0 rfl) ?_
  obtain ⟨i3, h⟩ := h
  obtain ⟨a4, ea4, h⟩ := h
  refine g7_4 C0 hO i3 ea4 tb_139 dX7_driver_6 ?_
  refine lv_iload_n C0.1 C0.2.1 dX7_driver_9 rfl (lv_at hl 1 rfl) ?_
  obtain ⟨i5, h⟩ := h
  obtain ⟨e6, h⟩ := h
  refine r_iald C0 hO i5 e6 dX7_driver_10 ?_
  refine lv_iconst (v := (-1)) C0.1 C0.2.1 dX7_driver_11 (by decide) ?_
  refine lv_icmp_ne (tgt := 25) C0.1 C0.2.1 dX7_driver_12 (by decide) (fun c7 => ?_) (fun c7 => ?_)
  · have h := h.1 c7
    refine lv_aload_n C0.1 C0.2.1 dX7_driver_25 rfl (lv_at hl 0 rfl) ?_
    obtain ⟨a8, ea8, h⟩ := h
    refine g7_4 C0 hO i3 ea8 tb_139 dX7_driver_26 ?_
    refine lv_iload_n C0.1 C0.2.1 dX7_driver_29 rfl (lv_at hl 1 rfl) ?_
    obtain ⟨i9, h⟩ := h
    obtain ⟨e10, h⟩ := h
    refine r_iald C0 hO i9 e10 dX7_driver_30 ?_
    refine vx_ret ?_
    exact e_I C0 Y hO hS h (by show _ ≤ 2; omega) (by show _ ≤ 12; omega) dX7_driver_31
  · have h := h.2 c7
    exact t_NS (text := "no link drives the shaft") C0 hl9 Y.2 hx9 hO hS tb_798 tb_50 (by decide +kernel) hl.1 h dX7_driver_15 dX7_driver_18 dX7_driver_19 dX7_driver_21 dX7_driver_24 (Nat.le_of_ble_eq_true rfl) (Nat.le_of_ble_eq_true rfl) (by show _ ≤ 2; omega) (by show _ ≤ 12; omega) (by show _ ≤ 2; omega) (by show _ ≤ 12; omega)
def wX7_driver (S : Hp) (x0 : Nat) (x1 : Int32) (Φ : Hp → Int32 → Prop) (Ψ : Hp → String → Prop) : Prop := wX7_driver_b0 x0 x1 Φ Ψ S
set_option maxRecDepth 100000 in
theorem mX7_driver {l : Launch} {G : Gw} (hl9 : l.stackTraces = false) {S : Hp} {x0 : Nat} {x1 : Int32} {Φ : Hp → Int32 → Prop} {Ψ : Hp → String → Prop} (h : wX7_driver S x0 x1 Φ Ψ) : gT l yX7_driver cX7_driver 2 (some .int) rm_X7_driver [.ref x0, .int x1] G S (PI Φ) Ψ := by
  unfold gT
  refine vx_ofW (cc := cX7_driver) (maxL := 2) (ret := (some .int)) (by decide) rfl ?_
  intro p e s m args below meth c s₁ B hml hx9 hv
  obtain ⟨rfl, hw⟩ := hv
  obtain ⟨C0, Y, hO⟩ := mx_of B hml hw
  have hS : va_S (Ab G.b) s.heap s.heap [] := va_S.rf
  have hl := lv_entry ([.ref x0, .int x1]) (n := 2) (Nat.le_of_ble_eq_true rfl)
  rw [lg_entry_eq]
  generalize (lg_sl ([.ref x0, .int x1]) ++ List.replicate (2 - (lg_sl ([.ref x0, .int x1])).length) Slot.unset).toArray = ls at hl ⊢
  have hl : lv_has ls 2 [(0, .ref x0), (1, .int x1)] := hl
  exact bX7_driver_b0 C0 Y hl9 hx9 S _ _ _ 0 0 h hO hS hl (by decide) (by decide)

def rm_X7_countDriven : Room := { frames := 0, cells := 0, slots := 0, locals := 0 }
def wX7_countDriven_b25 (x0 : Nat) (Φ : Hp → Int32 → Prop) (k4 : Hp → Int32 → Int32 → Prop) (S : Hp) (v1 : Int32) (v2 : Int32) : Prop := k4 S v1 (v2 + 1)
set_option maxHeartbeats 4000000 in
set_option maxRecDepth 100000 in
theorem bX7_countDriven_b25 {p : Program} {l : Launch} {e : Env} {s : State} {m : MethodId} {args : Array Value} {below : List Frame} {meth : Method} {c : Code} {G : Gw} {x0 : Nat} {Φ : Hp → Int32 → Prop} (C0 : Mx p s m c cX7_countDriven 3 args yX7_countDriven.cls G) (Y : My meth (some .int)) {k4 : Hp → Int32 → Int32 → Prop} (hk4 : ∀ (S : Hp) (v1 : Int32) (v2 : Int32) (H : Heap) (locs : List Loc) (ls : Array Slot), k4 S v1 v2 → Ok G S H → va_S (Ab G.b) s.heap H locs → lv_has ls 3 [(0, .ref x0), (1, .int v1), (2, .int v2)] → W p l e rm_X7_countDriven s m args below meth c H locs 0 0 (MQ below (gQ G (PI Φ)) args s rm_X7_countDriven.cells rm_X7_countDriven.slots (Ab G.b)) (F0 m 4 ls [])) : ∀ (S : Hp) (v1 : Int32) (v2 : Int32) (H : Heap) (locs : List Loc) (ls : Array Slot), wX7_countDriven_b25 x0 Φ k4 S v1 v2 → Ok G S H → va_S (Ab G.b) s.heap H locs → lv_has ls 3 [(0, .ref x0), (1, .int v1), (2, .int v2)] → W p l e rm_X7_countDriven s m args below meth c H locs 0 0 (MQ below (gQ G (PI Φ)) args s rm_X7_countDriven.cells rm_X7_countDriven.slots (Ab G.b)) (F0 m 25 ls []) := by
  intro S v1 v2 H locs ls h hO hS hl
  unfold wX7_countDriven_b25 at h
  refine lv_iinc (v := _ + 1) C0.1 C0.2.1 dX7_countDriven_25 hl (k := 2) rfl rfl (by decide) rfl (fun ls hl => ?_)
  refine lv_goto (tgt := 4) C0.1 C0.2.1 dX7_countDriven_28 (by decide) ?_
  exact hk4 _ _ _ _ _ _ h hO hS (lv_sub hl [1, 2, 0] rfl)
def wX7_countDriven_b4 (x0 : Nat) (Φ : Hp → Int32 → Prop) (k4 : Hp → Int32 → Int32 → Prop) (S : Hp) (v1 : Int32) (v2 : Int32) : Prop := isA S x0 7 ∧ (((S.FI 461 x0) ≤ v2 → Φ S v1) ∧ (¬ ((S.FI 461 x0) ≤ v2) → ∃ a3, S.FR 452 x0 = some a3 ∧ isA S a3 21 ∧ vp_in v2 (S.N a3) ∧ (((S.AI a3 v2.toNatClampNeg) = (-1) → wX7_countDriven_b25 x0 Φ k4 S v1 v2) ∧ (¬ ((S.AI a3 v2.toNatClampNeg) = (-1)) → wX7_countDriven_b25 x0 Φ k4 S (v1 + 1) v2))))
set_option maxHeartbeats 4000000 in
set_option maxRecDepth 100000 in
theorem bX7_countDriven_b4 {p : Program} {l : Launch} {e : Env} {s : State} {m : MethodId} {args : Array Value} {below : List Frame} {meth : Method} {c : Code} {G : Gw} {x0 : Nat} {Φ : Hp → Int32 → Prop} (C0 : Mx p s m c cX7_countDriven 3 args yX7_countDriven.cls G) (Y : My meth (some .int)) {k4 : Hp → Int32 → Int32 → Prop} (hk4 : ∀ (S : Hp) (v1 : Int32) (v2 : Int32) (H : Heap) (locs : List Loc) (ls : Array Slot), k4 S v1 v2 → Ok G S H → va_S (Ab G.b) s.heap H locs → lv_has ls 3 [(0, .ref x0), (1, .int v1), (2, .int v2)] → W p l e rm_X7_countDriven s m args below meth c H locs 0 0 (MQ below (gQ G (PI Φ)) args s rm_X7_countDriven.cells rm_X7_countDriven.slots (Ab G.b)) (F0 m 4 ls [])) : ∀ (S : Hp) (v1 : Int32) (v2 : Int32) (H : Heap) (locs : List Loc) (ls : Array Slot), wX7_countDriven_b4 x0 Φ k4 S v1 v2 → Ok G S H → va_S (Ab G.b) s.heap H locs → lv_has ls 3 [(0, .ref x0), (1, .int v1), (2, .int v2)] → W p l e rm_X7_countDriven s m args below meth c H locs 0 0 (MQ below (gQ G (PI Φ)) args s rm_X7_countDriven.cells rm_X7_countDriven.slots (Ab G.b)) (F0 m 4 ls []) := by
  intro S v1 v2 H locs ls h hO hS hl
  unfold wX7_countDriven_b4 at h
  refine lv_iload_n C0.1 C0.2.1 dX7_countDriven_4 rfl (lv_at hl 2 rfl) ?_
  refine lv_aload_n C0.1 C0.2.1 dX7_countDriven_5 rfl (lv_at hl 0 rfl) ?_
  obtain ⟨i1, h⟩ := h
  refine g7_13 C0 hO i1 tb_148 dX7_countDriven_6 ?_
  refine lv_icmp_ge (tgt := 31) C0.1 C0.2.1 dX7_countDriven_9 (by decide) (fun c2 => ?_) (fun c2 => ?_)
  · have h := h.1 c2
    refine lv_iload_n C0.1 C0.2.1 dX7_countDriven_31 rfl (lv_at hl 1 rfl) ?_
    exact e_I C0 Y hO hS h (Nat.le_refl _) (Nat.le_refl _) dX7_countDriven_32
  · have h := h.2 c2
    refine lv_aload_n C0.1 C0.2.1 dX7_countDriven_12 rfl (lv_at hl 0 rfl) ?_
    obtain ⟨a3, ea3, h⟩ := h
    refine g7_4 C0 hO i1 ea3 tb_139 dX7_countDriven_13 ?_
    refine lv_iload_n C0.1 C0.2.1 dX7_countDriven_16 rfl (lv_at hl 2 rfl) ?_
    obtain ⟨i4, h⟩ := h
    obtain ⟨e5, h⟩ := h
    refine r_iald C0 hO i4 e5 dX7_countDriven_17 ?_
    refine lv_iconst (v := (-1)) C0.1 C0.2.1 dX7_countDriven_18 (by decide) ?_
    refine lv_icmp_eq (tgt := 25) C0.1 C0.2.1 dX7_countDriven_19 (by decide) (fun c6 => ?_) (fun c6 => ?_)
    · have h := h.1 c6
      exact bX7_countDriven_b25 C0 Y hk4 _ _ _ _ _ _ h hO hS (lv_sub hl [0, 1, 2] rfl)
    · have h := h.2 c6
      refine lv_iinc (v := _ + 1) C0.1 C0.2.1 dX7_countDriven_22 hl (k := 1) rfl rfl (by decide) rfl (fun ls hl => ?_)
      exact bX7_countDriven_b25 C0 Y hk4 _ _ _ _ _ _ h hO hS (lv_sub hl [1, 0, 2] rfl)
set_option maxHeartbeats 4000000 in
set_option maxRecDepth 100000 in
theorem lX7_countDriven_b4 {p : Program} {l : Launch} {e : Env} {s : State} {m : MethodId} {args : Array Value} {below : List Frame} {meth : Method} {c : Code} {G : Gw} {x0 : Nat} {Φ : Hp → Int32 → Prop} (C0 : Mx p s m c cX7_countDriven 3 args yX7_countDriven.cls G) (Y : My meth (some .int))  : ∀ n9 : Nat, ∀ (S : Hp) (v1 : Int32) (v2 : Int32) (H : Heap) (locs : List Loc) (ls : Array Slot), it3 (wX7_countDriven_b4 x0 Φ) n9 S v1 v2 → Ok G S H → va_S (Ab G.b) s.heap H locs → lv_has ls 3 [(0, .ref x0), (1, .int v1), (2, .int v2)] → W p l e rm_X7_countDriven s m args below meth c H locs 0 0 (MQ below (gQ G (PI Φ)) args s rm_X7_countDriven.cells rm_X7_countDriven.slots (Ab G.b)) (F0 m 4 ls []) := by
  intro n9
  induction n9 with
  | zero => intro S v1 v2 H locs ls h; exact (h : False).elim
  | succ n9 ih => intro S v1 v2 H locs ls h hO hS hl; exact bX7_countDriven_b4 C0 Y ih S v1 v2 H locs ls h hO hS hl
def wX7_countDriven_b0 (x0 : Nat) (Φ : Hp → Int32 → Prop) (S : Hp) : Prop := ∃ n, it3 (wX7_countDriven_b4 x0 Φ) n S 0 0
set_option maxHeartbeats 4000000 in
set_option maxRecDepth 100000 in
theorem bX7_countDriven_b0 {p : Program} {l : Launch} {e : Env} {s : State} {m : MethodId} {args : Array Value} {below : List Frame} {meth : Method} {c : Code} {G : Gw} {x0 : Nat} {Φ : Hp → Int32 → Prop} (C0 : Mx p s m c cX7_countDriven 3 args yX7_countDriven.cls G) (Y : My meth (some .int))  : ∀ (S : Hp) (H : Heap) (locs : List Loc) (ls : Array Slot), wX7_countDriven_b0 x0 Φ S → Ok G S H → va_S (Ab G.b) s.heap H locs → lv_has ls 3 [(0, .ref x0)] → W p l e rm_X7_countDriven s m args below meth c H locs 0 0 (MQ below (gQ G (PI Φ)) args s rm_X7_countDriven.cells rm_X7_countDriven.slots (Ab G.b)) (F0 m 0 ls []) := by
  intro S H locs ls h hO hS hl
  unfold wX7_countDriven_b0 at h
  refine lv_iconst (v := 0) C0.1 C0.2.1 dX7_countDriven_0 (by decide) ?_
  refine lv_istore_n C0.1 C0.2.1 dX7_countDriven_1 rfl hl (by decide) rfl (fun ls hl => ?_)
  refine lv_iconst (v := 0) C0.1 C0.2.1 dX7_countDriven_2 (by decide) ?_
  refine lv_istore_n C0.1 C0.2.1 dX7_countDriven_3 rfl hl (by decide) rfl (fun ls hl => ?_)
  obtain ⟨n9, h⟩ := h
  exact lX7_countDriven_b4 C0 Y n9 _ _ _ _ _ _ h hO hS (lv_sub hl [2, 1, 0] rfl)
def wX7_countDriven (S : Hp) (x0 : Nat) (Φ : Hp → Int32 → Prop) : Prop := wX7_countDriven_b0 x0 Φ S
set_option maxRecDepth 100000 in
theorem mX7_countDriven {l : Launch} {G : Gw} {S : Hp} {x0 : Nat} {Φ : Hp → Int32 → Prop} (h : wX7_countDriven S x0 Φ) : gM l yX7_countDriven cX7_countDriven 3 (some .int) rm_X7_countDriven [.ref x0] G S (PI Φ) := by
  unfold gM
  refine Met.ofW (cc := cX7_countDriven) (maxL := 3) (ret := (some .int)) (by decide) rfl ?_
  intro p e s m args below meth c s₁ B hml hv
  obtain ⟨rfl, hw⟩ := hv
  obtain ⟨C0, Y, hO⟩ := mx_of B hml hw
  have hS : va_S (Ab G.b) s.heap s.heap [] := va_S.rf
  have hl := lv_entry ([.ref x0]) (n := 3) (Nat.le_of_ble_eq_true rfl)
  rw [lg_entry_eq]
  generalize (lg_sl ([.ref x0]) ++ List.replicate (3 - (lg_sl ([.ref x0])).length) Slot.unset).toArray = ls at hl ⊢
  have hl : lv_has ls 3 [(0, .ref x0)] := hl
  exact bX7_countDriven_b0 C0 Y S _ _ _ h hO hS hl

def rm_X7_freedom : Room := { frames := 1, cells := 0, slots := 0, locals := 22 }
def wX7_freedom_b0 (x0 : Nat) (Φ : Hp → Int32 → Prop) (S : Hp) : Prop := isA S x0 7 ∧ wX7_countDriven S x0 (fun S2 r3 => Φ S2 ((S.FI 461 x0) - r3))
set_option maxHeartbeats 4000000 in
set_option maxRecDepth 100000 in
theorem bX7_freedom_b0 {p : Program} {l : Launch} {e : Env} {s : State} {m : MethodId} {args : Array Value} {below : List Frame} {meth : Method} {c : Code} {G : Gw} {x0 : Nat} {Φ : Hp → Int32 → Prop} (C0 : Mx p s m c cX7_freedom 1 args yX7_freedom.cls G) (Y : My meth (some .int))  : ∀ (S : Hp) (H : Heap) (locs : List Loc) (ls : Array Slot), wX7_freedom_b0 x0 Φ S → Ok G S H → va_S (Ab G.b) s.heap H locs → lv_has ls 1 [(0, .ref x0)] → W p l e rm_X7_freedom s m args below meth c H locs 0 0 (MQ below (gQ G (PI Φ)) args s rm_X7_freedom.cells rm_X7_freedom.slots (Ab G.b)) (F0 m 0 ls []) := by
  intro S H locs ls h hO hS hl
  unfold wX7_freedom_b0 at h
  refine lv_aload_n C0.1 C0.2.1 dX7_freedom_0 rfl (lv_at hl 0 rfl) ?_
  obtain ⟨i1, h⟩ := h
  refine g7_13 C0 hO i1 tb_148 dX7_freedom_1 ?_
  refine lv_aload_n C0.1 C0.2.1 dX7_freedom_4 rfl (lv_at hl 0 rfl) ?_
  refine c_V C0 hO hS (mX7_countDriven h) i1 (by decide) rfl rfl tb_188 tb_190 tb_0 tb_27 tb_191 hd_X7_countDriven rfl ⟨⟨by decide, by decide⟩, by decide, by decide⟩ hl.1 rfl (Nat.le_of_ble_eq_true rfl) dX7_freedom_5 (kI (fun r3 S2 H locs h hO hS => ?_))
  refine lv_isub C0.1 C0.2.1 dX7_freedom_8 ?_
  exact e_I C0 Y hO hS h (Nat.le_refl _) (Nat.le_refl _) dX7_freedom_9
def wX7_freedom (S : Hp) (x0 : Nat) (Φ : Hp → Int32 → Prop) : Prop := wX7_freedom_b0 x0 Φ S
set_option maxRecDepth 100000 in
theorem mX7_freedom {l : Launch} {G : Gw} {S : Hp} {x0 : Nat} {Φ : Hp → Int32 → Prop} (h : wX7_freedom S x0 Φ) : gM l yX7_freedom cX7_freedom 1 (some .int) rm_X7_freedom [.ref x0] G S (PI Φ) := by
  unfold gM
  refine Met.ofW (cc := cX7_freedom) (maxL := 1) (ret := (some .int)) (by decide) rfl ?_
  intro p e s m args below meth c s₁ B hml hv
  obtain ⟨rfl, hw⟩ := hv
  obtain ⟨C0, Y, hO⟩ := mx_of B hml hw
  have hS : va_S (Ab G.b) s.heap s.heap [] := va_S.rf
  have hl := lv_entry ([.ref x0]) (n := 1) (Nat.le_of_ble_eq_true rfl)
  rw [lg_entry_eq]
  generalize (lg_sl ([.ref x0]) ++ List.replicate (1 - (lg_sl ([.ref x0])).length) Slot.unset).toArray = ls at hl ⊢
  have hl : lv_has ls 1 [(0, .ref x0)] := hl
  exact bX7_freedom_b0 C0 Y S _ _ _ h hO hS hl

def rm_X7_checkLink : Room := { frames := 6, cells := 1, slots := 6, locals := 90 }
def wX7_checkLink_b15 (x0 : Nat) (x1 : Int32) (Φ : Hp → Prop) (Ψ : Hp → String → Prop) (S : Hp) : Prop := Ψ S "java/lang/IndexOutOfBoundsException"
set_option maxHeartbeats 4000000 in
set_option maxRecDepth 100000 in
theorem bX7_checkLink_b15 {p : Program} {l : Launch} {e : Env} {s : State} {m : MethodId} {args : Array Value} {below : List Frame} {meth : Method} {c : Code} {G : Gw} {x0 : Nat} {x1 : Int32} {Φ : Hp → Prop} {Ψ : Hp → String → Prop} (C0 : Mx p s m c cX7_checkLink 2 args yX7_checkLink.cls G) (Y : My meth none) (hl9 : l.stackTraces = false) (hx9 : ∀ x ∈ c.exceptionTable.toList, False)  : ∀ (S : Hp) (H : Heap) (locs : List Loc) (ls : Array Slot) (cells slots : Nat), wX7_checkLink_b15 x0 x1 Φ Ψ S → Ok G S H → va_S (Ab G.b) s.heap H locs → lv_has ls 2 [(0, .ref x0), (1, .int x1)] → cells + (1) ≤ 1 → slots + (6) ≤ 6 → W p l e rm_X7_checkLink s m args below meth c H locs cells slots (vx_MQ below (gQ G (PV Φ)) (gX G Ψ) args s rm_X7_checkLink.cells rm_X7_checkLink.slots (Ab G.b)) (F0 m 15 ls []) := by
  intro S H locs ls cells slots h hO hS hl hcc hss
  unfold wX7_checkLink_b15 at h
  exact t_W (text := "no such link") (names := xnm) C0 hl9 Y.2 hx9 hO hS xf_IndexOutOfBoundsException xnm_ok tb_208 tb_37 (by decide +kernel) xat_368 xgd_36800364 hl.1 h dX7_checkLink_15 dX7_checkLink_18 dX7_checkLink_19 dX7_checkLink_22 dX7_checkLink_25 (Nat.le_of_ble_eq_true rfl) (Nat.le_of_ble_eq_true rfl) (by show _ ≤ 1; omega) (by show _ ≤ 6; omega) (by show _ ≤ 1; omega) (by show _ ≤ 6; omega)
def wX7_checkLink_b0 (x0 : Nat) (x1 : Int32) (Φ : Hp → Prop) (Ψ : Hp → String → Prop) (S : Hp) : Prop := ((x1 < 0 → wX7_checkLink_b15 x0 x1 Φ Ψ S) ∧ (¬ (x1 < 0) → isA S x0 7 ∧ ∃ a3, S.FR 448 x0 = some a3 ∧ isA S a3 9 ∧ wJx4a65c_size_8abf5 S a3 (fun S4 r5 => ((x1 < r5 → Φ S4) ∧ (¬ (x1 < r5) → wX7_checkLink_b15 x0 x1 Φ Ψ S4)))))
set_option maxHeartbeats 4000000 in
set_option maxRecDepth 100000 in
theorem bX7_checkLink_b0 {p : Program} {l : Launch} {e : Env} {s : State} {m : MethodId} {args : Array Value} {below : List Frame} {meth : Method} {c : Code} {G : Gw} {x0 : Nat} {x1 : Int32} {Φ : Hp → Prop} {Ψ : Hp → String → Prop} (C0 : Mx p s m c cX7_checkLink 2 args yX7_checkLink.cls G) (Y : My meth none) (hl9 : l.stackTraces = false) (hx9 : ∀ x ∈ c.exceptionTable.toList, False)  : ∀ (S : Hp) (H : Heap) (locs : List Loc) (ls : Array Slot) (cells slots : Nat), wX7_checkLink_b0 x0 x1 Φ Ψ S → Ok G S H → va_S (Ab G.b) s.heap H locs → lv_has ls 2 [(0, .ref x0), (1, .int x1)] → cells + (1) ≤ 1 → slots + (6) ≤ 6 → W p l e rm_X7_checkLink s m args below meth c H locs cells slots (vx_MQ below (gQ G (PV Φ)) (gX G Ψ) args s rm_X7_checkLink.cells rm_X7_checkLink.slots (Ab G.b)) (F0 m 0 ls []) := by
  intro S H locs ls cells slots h hO hS hl hcc hss
  unfold wX7_checkLink_b0 at h
  refine lv_iload_n C0.1 C0.2.1 dX7_checkLink_0 rfl (lv_at hl 1 rfl) ?_
  refine lv_if_lt (tgt := 15) C0.1 C0.2.1 dX7_checkLink_1 (by decide) (fun c1 => ?_) (fun c1 => ?_)
  · have h := h.1 c1
    exact bX7_checkLink_b15 C0 Y hl9 hx9 _ _ _ _ _ _ h hO hS (lv_sub hl [0, 1] rfl) (by omega) (by omega)
  · have h := h.2 c1
    refine lv_iload_n C0.1 C0.2.1 dX7_checkLink_4 rfl (lv_at hl 1 rfl) ?_
    refine lv_aload_n C0.1 C0.2.1 dX7_checkLink_5 rfl (lv_at hl 0 rfl) ?_
    obtain ⟨i2, h⟩ := h
    obtain ⟨a3, ea3, h⟩ := h
    refine g7_0 C0 hO i2 ea3 tb_135 dX7_checkLink_6 ?_
    obtain ⟨i6, h⟩ := h
    refine c_V C0 hO hS (mJx4a65c_size_8abf5 h) i6 (by decide) rfl rfl tb_204 tb_205 tb_206 tb_30 tb_207 hd_Jx4a65c_size_8abf5 rfl ⟨⟨by decide, by decide⟩, by show _ + 0 ≤ 1; omega, by show _ + 0 ≤ 6; omega⟩ hl.1 rfl (Nat.le_of_ble_eq_true rfl) dX7_checkLink_9 (kI (fun r5 S4 H locs h hO hS => ?_))
    change W _ _ _ _ _ _ _ _ _ _ _ _ (_ + 0) (_ + 0) _ _
    refine lv_icmp_lt (tgt := 26) C0.1 C0.2.1 dX7_checkLink_12 (by decide) (fun c7 => ?_) (fun c7 => ?_)
    · have h := h.1 c7
      refine vx_ret ?_
      exact e_V C0 Y hO hS h (by show _ ≤ 1; omega) (by show _ ≤ 6; omega) dX7_checkLink_26
    · have h := h.2 c7
      exact bX7_checkLink_b15 C0 Y hl9 hx9 _ _ _ _ _ _ h hO hS (lv_sub hl [0, 1] rfl) (by omega) (by omega)
def wX7_checkLink (S : Hp) (x0 : Nat) (x1 : Int32) (Φ : Hp → Prop) (Ψ : Hp → String → Prop) : Prop := wX7_checkLink_b0 x0 x1 Φ Ψ S
set_option maxRecDepth 100000 in
theorem mX7_checkLink {l : Launch} {G : Gw} (hl9 : l.stackTraces = false) {S : Hp} {x0 : Nat} {x1 : Int32} {Φ : Hp → Prop} {Ψ : Hp → String → Prop} (h : wX7_checkLink S x0 x1 Φ Ψ) : gT l yX7_checkLink cX7_checkLink 2 none rm_X7_checkLink [.ref x0, .int x1] G S (PV Φ) Ψ := by
  unfold gT
  refine vx_ofW (cc := cX7_checkLink) (maxL := 2) (ret := none) (by decide) rfl ?_
  intro p e s m args below meth c s₁ B hml hx9 hv
  obtain ⟨rfl, hw⟩ := hv
  obtain ⟨C0, Y, hO⟩ := mx_of B hml hw
  have hS : va_S (Ab G.b) s.heap s.heap [] := va_S.rf
  have hl := lv_entry ([.ref x0, .int x1]) (n := 2) (Nat.le_of_ble_eq_true rfl)
  rw [lg_entry_eq]
  generalize (lg_sl ([.ref x0, .int x1]) ++ List.replicate (2 - (lg_sl ([.ref x0, .int x1])).length) Slot.unset).toArray = ls at hl ⊢
  have hl : lv_has ls 2 [(0, .ref x0), (1, .int x1)] := hl
  exact bX7_checkLink_b0 C0 Y hl9 hx9 S _ _ _ 0 0 h hO hS hl (by decide) (by decide)

def rm_X7_wornOver : Room := { frames := 7, cells := 1, slots := 6, locals := 111 }
def wX7_wornOver_b0 (x0 : Nat) (x1 : Int32) (Φ : Hp → Int64 → Prop) (Ψ : Hp → String → Prop) (S : Hp) : Prop := isA S x0 7 ∧ wX7_checkLink S x0 x1 (fun S1 => isA S1 x0 7 ∧ ∃ a4, S1.FR 457 x0 = some a4 ∧ isA S1 a4 4 ∧ wX4_overAt S1 a4 x1 (fun S5 r6 => Φ S5 r6)) Ψ
set_option maxHeartbeats 4000000 in
set_option maxRecDepth 100000 in
theorem bX7_wornOver_b0 {p : Program} {l : Launch} {e : Env} {s : State} {m : MethodId} {args : Array Value} {below : List Frame} {meth : Method} {c : Code} {G : Gw} {x0 : Nat} {x1 : Int32} {Φ : Hp → Int64 → Prop} {Ψ : Hp → String → Prop} (C0 : Mx p s m c cX7_wornOver 2 args yX7_wornOver.cls G) (Y : My meth (some .long)) (hl9 : l.stackTraces = false) (hx9 : ∀ x ∈ c.exceptionTable.toList, False)  : ∀ (S : Hp) (H : Heap) (locs : List Loc) (ls : Array Slot) (cells slots : Nat), wX7_wornOver_b0 x0 x1 Φ Ψ S → Ok G S H → va_S (Ab G.b) s.heap H locs → lv_has ls 2 [(0, .ref x0), (1, .int x1)] → cells + (1) ≤ 1 → slots + (6) ≤ 6 → W p l e rm_X7_wornOver s m args below meth c H locs cells slots (vx_MQ below (gQ G (PJ Φ)) (gX G Ψ) args s rm_X7_wornOver.cells rm_X7_wornOver.slots (Ab G.b)) (F0 m 0 ls []) := by
  intro S H locs ls cells slots h hO hS hl hcc hss
  unfold wX7_wornOver_b0 at h
  refine lv_aload_n C0.1 C0.2.1 dX7_wornOver_0 rfl (lv_at hl 0 rfl) ?_
  refine lv_iload_n C0.1 C0.2.1 dX7_wornOver_1 rfl (lv_at hl 1 rfl) ?_
  obtain ⟨i2, h⟩ := h
  refine x_V C0 Y.2 hx9 hO hS (mX7_checkLink hl9 h) i2 (by decide) rfl rfl tb_200 tb_202 tb_2 tb_27 tb_203 hd_X7_checkLink rfl ⟨⟨by decide, by decide⟩, by show _ + 1 ≤ 1; omega, by show _ + 6 ≤ 6; omega⟩ hl.1 rfl (Nat.le_of_ble_eq_true rfl) dX7_wornOver_2 (by show _ + 1 ≤ 1; omega) (by show _ + 6 ≤ 6; omega) (kV (fun S1 H locs h hO hS => ?_))
  change W _ _ _ _ _ _ _ _ _ _ _ _ (_ + 1) (_ + 6) _ _
  refine lv_aload_n C0.1 C0.2.1 dX7_wornOver_5 rfl (lv_at hl 0 rfl) ?_
  obtain ⟨i3, h⟩ := h
  obtain ⟨a4, ea4, h⟩ := h
  refine g7_9 C0 hO i3 ea4 tb_144 dX7_wornOver_6 ?_
  refine lv_iload_n C0.1 C0.2.1 dX7_wornOver_9 rfl (lv_at hl 1 rfl) ?_
  obtain ⟨i7, h⟩ := h
  refine c_V C0 hO hS (mX4_overAt h) i7 (by decide) rfl rfl tb_748 tb_384 tb_385 tb_31 tb_386 hd_X4_overAt rfl ⟨⟨by decide, by decide⟩, by show _ + 0 ≤ 1; omega, by show _ + 0 ≤ 6; omega⟩ hl.1 rfl (Nat.le_of_ble_eq_true rfl) dX7_wornOver_10 (kJ (fun r6 S5 H locs h hO hS => ?_))
  change W _ _ _ _ _ _ _ _ _ _ _ _ (_ + 0) (_ + 0) _ _
  refine vx_ret ?_
  exact e_J C0 Y hO hS h (by show _ ≤ 1; omega) (by show _ ≤ 6; omega) dX7_wornOver_13
def wX7_wornOver (S : Hp) (x0 : Nat) (x1 : Int32) (Φ : Hp → Int64 → Prop) (Ψ : Hp → String → Prop) : Prop := wX7_wornOver_b0 x0 x1 Φ Ψ S
set_option maxRecDepth 100000 in
theorem mX7_wornOver {l : Launch} {G : Gw} (hl9 : l.stackTraces = false) {S : Hp} {x0 : Nat} {x1 : Int32} {Φ : Hp → Int64 → Prop} {Ψ : Hp → String → Prop} (h : wX7_wornOver S x0 x1 Φ Ψ) : gT l yX7_wornOver cX7_wornOver 2 (some .long) rm_X7_wornOver [.ref x0, .int x1] G S (PJ Φ) Ψ := by
  unfold gT
  refine vx_ofW (cc := cX7_wornOver) (maxL := 2) (ret := (some .long)) (by decide) rfl ?_
  intro p e s m args below meth c s₁ B hml hx9 hv
  obtain ⟨rfl, hw⟩ := hv
  obtain ⟨C0, Y, hO⟩ := mx_of B hml hw
  have hS : va_S (Ab G.b) s.heap s.heap [] := va_S.rf
  have hl := lv_entry ([.ref x0, .int x1]) (n := 2) (Nat.le_of_ble_eq_true rfl)
  rw [lg_entry_eq]
  generalize (lg_sl ([.ref x0, .int x1]) ++ List.replicate (2 - (lg_sl ([.ref x0, .int x1])).length) Slot.unset).toArray = ls at hl ⊢
  have hl : lv_has ls 2 [(0, .ref x0), (1, .int x1)] := hl
  exact bX7_wornOver_b0 C0 Y hl9 hx9 S _ _ _ 0 0 h hO hS hl (by decide) (by decide)

def rm_X7_wornUnder : Room := { frames := 7, cells := 1, slots := 6, locals := 111 }
def wX7_wornUnder_b0 (x0 : Nat) (x1 : Int32) (Φ : Hp → Int64 → Prop) (Ψ : Hp → String → Prop) (S : Hp) : Prop := isA S x0 7 ∧ wX7_checkLink S x0 x1 (fun S1 => isA S1 x0 7 ∧ ∃ a4, S1.FR 457 x0 = some a4 ∧ isA S1 a4 4 ∧ wX4_underAt S1 a4 x1 (fun S5 r6 => Φ S5 r6)) Ψ
set_option maxHeartbeats 4000000 in
set_option maxRecDepth 100000 in
theorem bX7_wornUnder_b0 {p : Program} {l : Launch} {e : Env} {s : State} {m : MethodId} {args : Array Value} {below : List Frame} {meth : Method} {c : Code} {G : Gw} {x0 : Nat} {x1 : Int32} {Φ : Hp → Int64 → Prop} {Ψ : Hp → String → Prop} (C0 : Mx p s m c cX7_wornUnder 2 args yX7_wornUnder.cls G) (Y : My meth (some .long)) (hl9 : l.stackTraces = false) (hx9 : ∀ x ∈ c.exceptionTable.toList, False)  : ∀ (S : Hp) (H : Heap) (locs : List Loc) (ls : Array Slot) (cells slots : Nat), wX7_wornUnder_b0 x0 x1 Φ Ψ S → Ok G S H → va_S (Ab G.b) s.heap H locs → lv_has ls 2 [(0, .ref x0), (1, .int x1)] → cells + (1) ≤ 1 → slots + (6) ≤ 6 → W p l e rm_X7_wornUnder s m args below meth c H locs cells slots (vx_MQ below (gQ G (PJ Φ)) (gX G Ψ) args s rm_X7_wornUnder.cells rm_X7_wornUnder.slots (Ab G.b)) (F0 m 0 ls []) := by
  intro S H locs ls cells slots h hO hS hl hcc hss
  unfold wX7_wornUnder_b0 at h
  refine lv_aload_n C0.1 C0.2.1 dX7_wornUnder_0 rfl (lv_at hl 0 rfl) ?_
  refine lv_iload_n C0.1 C0.2.1 dX7_wornUnder_1 rfl (lv_at hl 1 rfl) ?_
  obtain ⟨i2, h⟩ := h
  refine x_V C0 Y.2 hx9 hO hS (mX7_checkLink hl9 h) i2 (by decide) rfl rfl tb_200 tb_202 tb_2 tb_27 tb_203 hd_X7_checkLink rfl ⟨⟨by decide, by decide⟩, by show _ + 1 ≤ 1; omega, by show _ + 6 ≤ 6; omega⟩ hl.1 rfl (Nat.le_of_ble_eq_true rfl) dX7_wornUnder_2 (by show _ + 1 ≤ 1; omega) (by show _ + 6 ≤ 6; omega) (kV (fun S1 H locs h hO hS => ?_))
  change W _ _ _ _ _ _ _ _ _ _ _ _ (_ + 1) (_ + 6) _ _
  refine lv_aload_n C0.1 C0.2.1 dX7_wornUnder_5 rfl (lv_at hl 0 rfl) ?_
  obtain ⟨i3, h⟩ := h
  obtain ⟨a4, ea4, h⟩ := h
  refine g7_9 C0 hO i3 ea4 tb_144 dX7_wornUnder_6 ?_
  refine lv_iload_n C0.1 C0.2.1 dX7_wornUnder_9 rfl (lv_at hl 1 rfl) ?_
  obtain ⟨i7, h⟩ := h
  refine c_V C0 hO hS (mX4_underAt h) i7 (by decide) rfl rfl tb_752 tb_411 tb_412 tb_31 tb_413 hd_X4_underAt rfl ⟨⟨by decide, by decide⟩, by show _ + 0 ≤ 1; omega, by show _ + 0 ≤ 6; omega⟩ hl.1 rfl (Nat.le_of_ble_eq_true rfl) dX7_wornUnder_10 (kJ (fun r6 S5 H locs h hO hS => ?_))
  change W _ _ _ _ _ _ _ _ _ _ _ _ (_ + 0) (_ + 0) _ _
  refine vx_ret ?_
  exact e_J C0 Y hO hS h (by show _ ≤ 1; omega) (by show _ ≤ 6; omega) dX7_wornUnder_13
def wX7_wornUnder (S : Hp) (x0 : Nat) (x1 : Int32) (Φ : Hp → Int64 → Prop) (Ψ : Hp → String → Prop) : Prop := wX7_wornUnder_b0 x0 x1 Φ Ψ S
set_option maxRecDepth 100000 in
theorem mX7_wornUnder {l : Launch} {G : Gw} (hl9 : l.stackTraces = false) {S : Hp} {x0 : Nat} {x1 : Int32} {Φ : Hp → Int64 → Prop} {Ψ : Hp → String → Prop} (h : wX7_wornUnder S x0 x1 Φ Ψ) : gT l yX7_wornUnder cX7_wornUnder 2 (some .long) rm_X7_wornUnder [.ref x0, .int x1] G S (PJ Φ) Ψ := by
  unfold gT
  refine vx_ofW (cc := cX7_wornUnder) (maxL := 2) (ret := (some .long)) (by decide) rfl ?_
  intro p e s m args below meth c s₁ B hml hx9 hv
  obtain ⟨rfl, hw⟩ := hv
  obtain ⟨C0, Y, hO⟩ := mx_of B hml hw
  have hS : va_S (Ab G.b) s.heap s.heap [] := va_S.rf
  have hl := lv_entry ([.ref x0, .int x1]) (n := 2) (Nat.le_of_ble_eq_true rfl)
  rw [lg_entry_eq]
  generalize (lg_sl ([.ref x0, .int x1]) ++ List.replicate (2 - (lg_sl ([.ref x0, .int x1])).length) Slot.unset).toArray = ls at hl ⊢
  have hl : lv_has ls 2 [(0, .ref x0), (1, .int x1)] := hl
  exact bX7_wornUnder_b0 C0 Y hl9 hx9 S _ _ _ 0 0 h hO hS hl (by decide) (by decide)

def rm_X7_linkAt : Room := { frames := 7, cells := 1, slots := 6, locals := 111 }
def wX7_linkAt_b0 (x0 : Nat) (x1 : Int32) (Φ : Hp → Option Nat → Prop) (Ψ : Hp → String → Prop) (S : Hp) : Prop := isA S x0 7 ∧ wX7_checkLink S x0 x1 (fun S1 => isA S1 x0 7 ∧ ∃ a4, S1.FR 448 x0 = some a4 ∧ isA S1 a4 9 ∧ wJx4a65c_get_915e3 S1 a4 x1 (fun S5 r6 => ∃ a8, r6 = some a8 ∧ isA S5 a8 5 ∧ Φ S5 (some a8))) Ψ
set_option maxHeartbeats 4000000 in
set_option maxRecDepth 100000 in
theorem bX7_linkAt_b0 {p : Program} {l : Launch} {e : Env} {s : State} {m : MethodId} {args : Array Value} {below : List Frame} {meth : Method} {c : Code} {G : Gw} {x0 : Nat} {x1 : Int32} {Φ : Hp → Option Nat → Prop} {Ψ : Hp → String → Prop} (C0 : Mx p s m c cX7_linkAt 2 args yX7_linkAt.cls G) (Y : My meth (some (.object "Linkwright$Link"))) (hl9 : l.stackTraces = false) (hx9 : ∀ x ∈ c.exceptionTable.toList, False)  : ∀ (S : Hp) (H : Heap) (locs : List Loc) (ls : Array Slot) (cells slots : Nat), wX7_linkAt_b0 x0 x1 Φ Ψ S → Ok G S H → va_S (Ab G.b) s.heap H locs → lv_has ls 2 [(0, .ref x0), (1, .int x1)] → cells + (1) ≤ 1 → slots + (6) ≤ 6 → W p l e rm_X7_linkAt s m args below meth c H locs cells slots (vx_MQ below (gQ G (PR Φ)) (gX G Ψ) args s rm_X7_linkAt.cells rm_X7_linkAt.slots (Ab G.b)) (F0 m 0 ls []) := by
  intro S H locs ls cells slots h hO hS hl hcc hss
  unfold wX7_linkAt_b0 at h
  refine lv_aload_n C0.1 C0.2.1 dX7_linkAt_0 rfl (lv_at hl 0 rfl) ?_
  refine lv_iload_n C0.1 C0.2.1 dX7_linkAt_1 rfl (lv_at hl 1 rfl) ?_
  obtain ⟨i2, h⟩ := h
  refine x_V C0 Y.2 hx9 hO hS (mX7_checkLink hl9 h) i2 (by decide) rfl rfl tb_200 tb_202 tb_2 tb_27 tb_203 hd_X7_checkLink rfl ⟨⟨by decide, by decide⟩, by show _ + 1 ≤ 1; omega, by show _ + 6 ≤ 6; omega⟩ hl.1 rfl (Nat.le_of_ble_eq_true rfl) dX7_linkAt_2 (by show _ + 1 ≤ 1; omega) (by show _ + 6 ≤ 6; omega) (kV (fun S1 H locs h hO hS => ?_))
  change W _ _ _ _ _ _ _ _ _ _ _ _ (_ + 1) (_ + 6) _ _
  refine lv_aload_n C0.1 C0.2.1 dX7_linkAt_5 rfl (lv_at hl 0 rfl) ?_
  obtain ⟨i3, h⟩ := h
  obtain ⟨a4, ea4, h⟩ := h
  refine g7_0 C0 hO i3 ea4 tb_135 dX7_linkAt_6 ?_
  refine lv_iload_n C0.1 C0.2.1 dX7_linkAt_9 rfl (lv_at hl 1 rfl) ?_
  obtain ⟨i7, h⟩ := h
  refine c_V C0 hO hS (mJx4a65c_get_915e3 h) i7 (by decide) rfl rfl tb_280 tb_281 tb_282 tb_30 tb_283 hd_Jx4a65c_get_915e3 rfl ⟨⟨by decide, by decide⟩, by show _ + 0 ≤ 1; omega, by show _ + 0 ≤ 6; omega⟩ hl.1 rfl (Nat.le_of_ble_eq_true rfl) dX7_linkAt_10 (kR (fun r6 S5 H locs h hO hS => ?_))
  change W _ _ _ _ _ _ _ _ _ _ _ _ (_ + 0) (_ + 0) _ _
  obtain ⟨a8, ea8, h⟩ := h
  subst ea8
  change W _ _ _ _ _ _ _ _ _ _ _ _ _ _ _ (F0 _ _ _ (.ref a8 :: _))
  obtain ⟨i9, h⟩ := h
  refine r_castO C0 hO i9 (by decide) rfl tb_294 dX7_linkAt_13 ?_
  refine vx_ret ?_
  exact e_R (v := some a8) C0 Y (Or.inl ⟨_, rfl⟩) hO hS h (by show _ ≤ 1; omega) (by show _ ≤ 6; omega) dX7_linkAt_16
def wX7_linkAt (S : Hp) (x0 : Nat) (x1 : Int32) (Φ : Hp → Option Nat → Prop) (Ψ : Hp → String → Prop) : Prop := wX7_linkAt_b0 x0 x1 Φ Ψ S
set_option maxRecDepth 100000 in
theorem mX7_linkAt {l : Launch} {G : Gw} (hl9 : l.stackTraces = false) {S : Hp} {x0 : Nat} {x1 : Int32} {Φ : Hp → Option Nat → Prop} {Ψ : Hp → String → Prop} (h : wX7_linkAt S x0 x1 Φ Ψ) : gT l yX7_linkAt cX7_linkAt 2 (some (.object "Linkwright$Link")) rm_X7_linkAt [.ref x0, .int x1] G S (PR Φ) Ψ := by
  unfold gT
  refine vx_ofW (cc := cX7_linkAt) (maxL := 2) (ret := (some (.object "Linkwright$Link"))) (by decide) rfl ?_
  intro p e s m args below meth c s₁ B hml hx9 hv
  obtain ⟨rfl, hw⟩ := hv
  obtain ⟨C0, Y, hO⟩ := mx_of B hml hw
  have hS : va_S (Ab G.b) s.heap s.heap [] := va_S.rf
  have hl := lv_entry ([.ref x0, .int x1]) (n := 2) (Nat.le_of_ble_eq_true rfl)
  rw [lg_entry_eq]
  generalize (lg_sl ([.ref x0, .int x1]) ++ List.replicate (2 - (lg_sl ([.ref x0, .int x1])).length) Slot.unset).toArray = ls at hl ⊢
  have hl : lv_has ls 2 [(0, .ref x0), (1, .int x1)] := hl
  exact bX7_linkAt_b0 C0 Y hl9 hx9 S _ _ _ 0 0 h hO hS hl (by decide) (by decide)

def rm_X7_isBroken : Room := { frames := 8, cells := 1, slots := 6, locals := 132 }
def wX7_isBroken_b0 (x0 : Nat) (x1 : Int32) (Φ : Hp → Int32 → Prop) (Ψ : Hp → String → Prop) (S : Hp) : Prop := isA S x0 7 ∧ wX7_linkAt S x0 x1 (fun S1 r2 => ∃ a4, r2 = some a4 ∧ isA S1 a4 5 ∧ narrow .boolean (.int (S1.FI 328 a4)) = .int (S1.FI 328 a4) ∧ Φ S1 (S1.FI 328 a4)) Ψ
set_option maxHeartbeats 4000000 in
set_option maxRecDepth 100000 in
theorem bX7_isBroken_b0 {p : Program} {l : Launch} {e : Env} {s : State} {m : MethodId} {args : Array Value} {below : List Frame} {meth : Method} {c : Code} {G : Gw} {x0 : Nat} {x1 : Int32} {Φ : Hp → Int32 → Prop} {Ψ : Hp → String → Prop} (C0 : Mx p s m c cX7_isBroken 2 args yX7_isBroken.cls G) (Y : My meth (some .boolean)) (hl9 : l.stackTraces = false) (hx9 : ∀ x ∈ c.exceptionTable.toList, False)  : ∀ (S : Hp) (H : Heap) (locs : List Loc) (ls : Array Slot) (cells slots : Nat), wX7_isBroken_b0 x0 x1 Φ Ψ S → Ok G S H → va_S (Ab G.b) s.heap H locs → lv_has ls 2 [(0, .ref x0), (1, .int x1)] → cells + (1) ≤ 1 → slots + (6) ≤ 6 → W p l e rm_X7_isBroken s m args below meth c H locs cells slots (vx_MQ below (gQ G (PI Φ)) (gX G Ψ) args s rm_X7_isBroken.cells rm_X7_isBroken.slots (Ab G.b)) (F0 m 0 ls []) := by
  intro S H locs ls cells slots h hO hS hl hcc hss
  unfold wX7_isBroken_b0 at h
  refine lv_aload_n C0.1 C0.2.1 dX7_isBroken_0 rfl (lv_at hl 0 rfl) ?_
  refine lv_iload_n C0.1 C0.2.1 dX7_isBroken_1 rfl (lv_at hl 1 rfl) ?_
  obtain ⟨i3, h⟩ := h
  refine x_V C0 Y.2 hx9 hO hS (mX7_linkAt hl9 h) i3 (by decide) rfl rfl tb_196 tb_198 tb_1 tb_27 tb_199 hd_X7_linkAt rfl ⟨⟨by decide, by decide⟩, by show _ + 1 ≤ 1; omega, by show _ + 6 ≤ 6; omega⟩ hl.1 rfl (Nat.le_of_ble_eq_true rfl) dX7_isBroken_2 (by show _ + 1 ≤ 1; omega) (by show _ + 6 ≤ 6; omega) (kR (fun r2 S1 H locs h hO hS => ?_))
  change W _ _ _ _ _ _ _ _ _ _ _ _ (_ + 1) (_ + 6) _ _
  obtain ⟨a4, ea4, h⟩ := h
  subst ea4
  change W _ _ _ _ _ _ _ _ _ _ _ _ _ _ _ (F0 _ _ _ (.ref a4 :: _))
  obtain ⟨i5, h⟩ := h
  refine g5_8 C0 hO i5 tb_614 dX7_isBroken_5 ?_
  refine vx_ret ?_
  exact e_Z C0 Y hO hS h.1 h.2 (by show _ ≤ 1; omega) (by show _ ≤ 6; omega) dX7_isBroken_8
def wX7_isBroken (S : Hp) (x0 : Nat) (x1 : Int32) (Φ : Hp → Int32 → Prop) (Ψ : Hp → String → Prop) : Prop := wX7_isBroken_b0 x0 x1 Φ Ψ S
set_option maxRecDepth 100000 in
theorem mX7_isBroken {l : Launch} {G : Gw} (hl9 : l.stackTraces = false) {S : Hp} {x0 : Nat} {x1 : Int32} {Φ : Hp → Int32 → Prop} {Ψ : Hp → String → Prop} (h : wX7_isBroken S x0 x1 Φ Ψ) : gT l yX7_isBroken cX7_isBroken 2 (some .boolean) rm_X7_isBroken [.ref x0, .int x1] G S (PI Φ) Ψ := by
  unfold gT
  refine vx_ofW (cc := cX7_isBroken) (maxL := 2) (ret := (some .boolean)) (by decide) rfl ?_
  intro p e s m args below meth c s₁ B hml hx9 hv
  obtain ⟨rfl, hw⟩ := hv
  obtain ⟨C0, Y, hO⟩ := mx_of B hml hw
  have hS : va_S (Ab G.b) s.heap s.heap [] := va_S.rf
  have hl := lv_entry ([.ref x0, .int x1]) (n := 2) (Nat.le_of_ble_eq_true rfl)
  rw [lg_entry_eq]
  generalize (lg_sl ([.ref x0, .int x1]) ++ List.replicate (2 - (lg_sl ([.ref x0, .int x1])).length) Slot.unset).toArray = ls at hl ⊢
  have hl : lv_has ls 2 [(0, .ref x0), (1, .int x1)] := hl
  exact bX7_isBroken_b0 C0 Y hl9 hx9 S _ _ _ 0 0 h hO hS hl (by decide) (by decide)

def rm_X7_drivenShare : Room := { frames := 6, cells := 1, slots := 6, locals := 90 }
def wX7_drivenShare_b0 (x0 : Nat) (Φ : Hp → UInt32 → Prop) (Ψ : Hp → String → Prop) (S : Hp) : Prop := isA S x0 7 ∧ ((¬ (S.FI 461 x0) = 0 → wX7_countDriven S x0 (fun S3 r4 => isA S3 x0 7 ∧ vf_n32 (FP.fdiv (FP.i2f r4) (FP.i2f (S3.FI 461 x0))) ∧ Φ S3 (FP.fdiv (FP.i2f r4) (FP.i2f (S3.FI 461 x0))))) ∧ ((S.FI 461 x0) = 0 → Ψ S "java/lang/ArithmeticException"))
set_option maxHeartbeats 4000000 in
set_option maxRecDepth 100000 in
theorem bX7_drivenShare_b0 {p : Program} {l : Launch} {e : Env} {s : State} {m : MethodId} {args : Array Value} {below : List Frame} {meth : Method} {c : Code} {G : Gw} {x0 : Nat} {Φ : Hp → UInt32 → Prop} {Ψ : Hp → String → Prop} (C0 : Mx p s m c cX7_drivenShare 1 args yX7_drivenShare.cls G) (Y : My meth (some .float)) (hl9 : l.stackTraces = false) (hx9 : ∀ x ∈ c.exceptionTable.toList, False)  : ∀ (S : Hp) (H : Heap) (locs : List Loc) (ls : Array Slot) (cells slots : Nat), wX7_drivenShare_b0 x0 Φ Ψ S → Ok G S H → va_S (Ab G.b) s.heap H locs → lv_has ls 1 [(0, .ref x0)] → cells + (1) ≤ 1 → slots + (6) ≤ 6 → W p l e rm_X7_drivenShare s m args below meth c H locs cells slots (vx_MQ below (gQ G (PF Φ)) (gX G Ψ) args s rm_X7_drivenShare.cells rm_X7_drivenShare.slots (Ab G.b)) (F0 m 0 ls []) := by
  intro S H locs ls cells slots h hO hS hl hcc hss
  unfold wX7_drivenShare_b0 at h
  refine lv_aload_n C0.1 C0.2.1 dX7_drivenShare_0 rfl (lv_at hl 0 rfl) ?_
  obtain ⟨i1, h⟩ := h
  refine g7_13 C0 hO i1 tb_148 dX7_drivenShare_1 ?_
  refine lv_if_ne (tgt := 18) C0.1 C0.2.1 dX7_drivenShare_4 (by decide) (fun c2 => ?_) (fun c2 => ?_)
  · have h := h.1 c2
    refine lv_aload_n C0.1 C0.2.1 dX7_drivenShare_18 rfl (lv_at hl 0 rfl) ?_
    refine c_V C0 hO hS (mX7_countDriven h) i1 (by decide) rfl rfl tb_188 tb_190 tb_0 tb_27 tb_191 hd_X7_countDriven rfl ⟨⟨by decide, by decide⟩, by show _ + 0 ≤ 1; omega, by show _ + 0 ≤ 6; omega⟩ hl.1 rfl (Nat.le_of_ble_eq_true rfl) dX7_drivenShare_19 (kI (fun r4 S3 H locs h hO hS => ?_))
    change W _ _ _ _ _ _ _ _ _ _ _ _ (_ + 0) (_ + 0) _ _
    refine lv_i2f C0.1 C0.2.1 dX7_drivenShare_22 ?_
    refine lv_aload_n C0.1 C0.2.1 dX7_drivenShare_23 rfl (lv_at hl 0 rfl) ?_
    obtain ⟨i5, h⟩ := h
    refine g7_13 C0 hO i5 tb_148 dX7_drivenShare_24 ?_
    refine lv_i2f C0.1 C0.2.1 dX7_drivenShare_27 ?_
    obtain ⟨e6, h⟩ := h
    refine lv_fdiv C0.1 C0.2.1 dX7_drivenShare_28 e6 ?_
    refine vx_ret ?_
    exact e_F C0 Y hO hS h (by show _ ≤ 1; omega) (by show _ ≤ 6; omega) dX7_drivenShare_29
  · have h := h.2 c2
    exact t_W (text := "there are no shafts") (names := xnm) C0 hl9 Y.2 hx9 hO hS xf_ArithmeticException xnm_ok tb_299 tb_51 (by decide +kernel) xat_345 xgd_34500341 hl.1 h dX7_drivenShare_7 dX7_drivenShare_10 dX7_drivenShare_11 dX7_drivenShare_14 dX7_drivenShare_17 (Nat.le_of_ble_eq_true rfl) (Nat.le_of_ble_eq_true rfl) (by show _ ≤ 1; omega) (by show _ ≤ 6; omega) (by show _ ≤ 1; omega) (by show _ ≤ 6; omega)
def wX7_drivenShare (S : Hp) (x0 : Nat) (Φ : Hp → UInt32 → Prop) (Ψ : Hp → String → Prop) : Prop := wX7_drivenShare_b0 x0 Φ Ψ S
set_option maxRecDepth 100000 in
theorem mX7_drivenShare {l : Launch} {G : Gw} (hl9 : l.stackTraces = false) {S : Hp} {x0 : Nat} {Φ : Hp → UInt32 → Prop} {Ψ : Hp → String → Prop} (h : wX7_drivenShare S x0 Φ Ψ) : gT l yX7_drivenShare cX7_drivenShare 1 (some .float) rm_X7_drivenShare [.ref x0] G S (PF Φ) Ψ := by
  unfold gT
  refine vx_ofW (cc := cX7_drivenShare) (maxL := 1) (ret := (some .float)) (by decide) rfl ?_
  intro p e s m args below meth c s₁ B hml hx9 hv
  obtain ⟨rfl, hw⟩ := hv
  obtain ⟨C0, Y, hO⟩ := mx_of B hml hw
  have hS : va_S (Ab G.b) s.heap s.heap [] := va_S.rf
  have hl := lv_entry ([.ref x0]) (n := 1) (Nat.le_of_ble_eq_true rfl)
  rw [lg_entry_eq]
  generalize (lg_sl ([.ref x0]) ++ List.replicate (1 - (lg_sl ([.ref x0])).length) Slot.unset).toArray = ls at hl ⊢
  have hl : lv_has ls 1 [(0, .ref x0)] := hl
  exact bX7_drivenShare_b0 C0 Y hl9 hx9 S _ _ _ 0 0 h hO hS hl (by decide) (by decide)

def rm_X7_isLastTurningSame : Room := { frames := 5, cells := 0, slots := 0, locals := 132 }
def wX7_isLastTurningSame_b55 (x0 : Nat) (Φ : Hp → Int32 → Prop) (k23 : Hp → Int32 → Prop) (S : Hp) (v1 : Int32) (z0 : Nat) (z1 : Nat) (z2 : Int32) (z3 : Int32) : Prop := isA S z0 7 ∧ wX7_takeStep S z0 z1 z2 z3 (fun S1 => k23 S1 (v1 + 1))
set_option maxHeartbeats 4000000 in
set_option maxRecDepth 100000 in
theorem bX7_isLastTurningSame_b55 {p : Program} {l : Launch} {e : Env} {s : State} {m : MethodId} {args : Array Value} {below : List Frame} {meth : Method} {c : Code} {G : Gw} {x0 : Nat} {Φ : Hp → Int32 → Prop} (C0 : Mx p s m c cX7_isLastTurningSame 2 args yX7_isLastTurningSame.cls G) (Y : My meth (some .boolean)) {k23 : Hp → Int32 → Prop} (hk23 : ∀ (S : Hp) (v1 : Int32) (H : Heap) (locs : List Loc) (ls : Array Slot), k23 S v1 → Ok G S H → va_S (Ab G.b) s.heap H locs → lv_has ls 2 [(0, .ref x0), (1, .int v1)] → W p l e rm_X7_isLastTurningSame s m args below meth c H locs 0 0 (MQ below (gQ G (PI Φ)) args s rm_X7_isLastTurningSame.cells rm_X7_isLastTurningSame.slots (Ab G.b)) (F0 m 23 ls [])) : ∀ (S : Hp) (v1 : Int32) (z0 : Nat) (z1 : Nat) (z2 : Int32) (z3 : Int32) (H : Heap) (locs : List Loc) (ls : Array Slot), wX7_isLastTurningSame_b55 x0 Φ k23 S v1 z0 z1 z2 z3 → Ok G S H → va_S (Ab G.b) s.heap H locs → lv_has ls 2 [(0, .ref x0), (1, .int v1)] → W p l e rm_X7_isLastTurningSame s m args below meth c H locs 0 0 (MQ below (gQ G (PI Φ)) args s rm_X7_isLastTurningSame.cells rm_X7_isLastTurningSame.slots (Ab G.b)) (F0 m 55 ls [.int z3, .int z2, .ref z1, .ref z0]) := by
  intro S v1 z0 z1 z2 z3 H locs ls h hO hS hl
  unfold wX7_isLastTurningSame_b55 at h
  obtain ⟨i2, h⟩ := h
  refine c_V C0 hO hS (mX7_takeStep h) i2 (by decide) rfl rfl tb_340 tb_342 tb_5 tb_27 tb_343 hd_X7_takeStep rfl ⟨⟨by decide, by decide⟩, by decide, by decide⟩ hl.1 rfl (Nat.le_of_ble_eq_true rfl) dX7_isLastTurningSame_55 (kV (fun S1 H locs h hO hS => ?_))
  refine lv_iinc (v := _ + 1) C0.1 C0.2.1 dX7_isLastTurningSame_58 hl (k := 1) rfl rfl (by decide) rfl (fun ls hl => ?_)
  refine lv_goto (tgt := 23) C0.1 C0.2.1 dX7_isLastTurningSame_61 (by decide) ?_
  exact hk23 _ _ _ _ _ h hO hS (lv_sub hl [1, 0] rfl)
def wX7_isLastTurningSame_b66 (x0 : Nat) (Φ : Hp → Int32 → Prop) (k66 : Hp → Int32 → Prop) (S : Hp) (v1 : Int32) : Prop := isA S x0 7 ∧ (((S.FI 461 x0) ≤ v1 → Φ S 1) ∧ (¬ ((S.FI 461 x0) ≤ v1) → ∃ a3, S.FR 460 x0 = some a3 ∧ isA S a3 6 ∧ ∃ a5, S.FR 384 a3 = some a5 ∧ ∃ a6, S.FR 458 x0 = some a6 ∧ isA S a6 6 ∧ ∃ a8, S.FR 384 a6 = some a8 ∧ isA S a5 4 ∧ wX4_isSame S a5 v1 a8 (fun S9 r10 => ((¬ r10 = 0 → k66 S9 (v1 + 1)) ∧ (r10 = 0 → Φ S9 0)))))
set_option maxHeartbeats 4000000 in
set_option maxRecDepth 100000 in
theorem bX7_isLastTurningSame_b66 {p : Program} {l : Launch} {e : Env} {s : State} {m : MethodId} {args : Array Value} {below : List Frame} {meth : Method} {c : Code} {G : Gw} {x0 : Nat} {Φ : Hp → Int32 → Prop} (C0 : Mx p s m c cX7_isLastTurningSame 2 args yX7_isLastTurningSame.cls G) (Y : My meth (some .boolean)) {k66 : Hp → Int32 → Prop} (hk66 : ∀ (S : Hp) (v1 : Int32) (H : Heap) (locs : List Loc) (ls : Array Slot), k66 S v1 → Ok G S H → va_S (Ab G.b) s.heap H locs → lv_has ls 2 [(0, .ref x0), (1, .int v1)] → W p l e rm_X7_isLastTurningSame s m args below meth c H locs 0 0 (MQ below (gQ G (PI Φ)) args s rm_X7_isLastTurningSame.cells rm_X7_isLastTurningSame.slots (Ab G.b)) (F0 m 66 ls [])) : ∀ (S : Hp) (v1 : Int32) (H : Heap) (locs : List Loc) (ls : Array Slot), wX7_isLastTurningSame_b66 x0 Φ k66 S v1 → Ok G S H → va_S (Ab G.b) s.heap H locs → lv_has ls 2 [(0, .ref x0), (1, .int v1)] → W p l e rm_X7_isLastTurningSame s m args below meth c H locs 0 0 (MQ below (gQ G (PI Φ)) args s rm_X7_isLastTurningSame.cells rm_X7_isLastTurningSame.slots (Ab G.b)) (F0 m 66 ls []) := by
  intro S v1 H locs ls h hO hS hl
  unfold wX7_isLastTurningSame_b66 at h
  refine lv_iload_n C0.1 C0.2.1 dX7_isLastTurningSame_66 rfl (lv_at hl 1 rfl) ?_
  refine lv_aload_n C0.1 C0.2.1 dX7_isLastTurningSame_67 rfl (lv_at hl 0 rfl) ?_
  obtain ⟨i1, h⟩ := h
  refine g7_13 C0 hO i1 tb_148 dX7_isLastTurningSame_68 ?_
  refine lv_icmp_ge (tgt := 103) C0.1 C0.2.1 dX7_isLastTurningSame_71 (by decide) (fun c2 => ?_) (fun c2 => ?_)
  · have h := h.1 c2
    refine lv_iconst (v := 1) C0.1 C0.2.1 dX7_isLastTurningSame_103 (by decide) ?_
    exact e_Z C0 Y hO hS rfl h (Nat.le_refl _) (Nat.le_refl _) dX7_isLastTurningSame_104
  · have h := h.2 c2
    refine lv_aload_n C0.1 C0.2.1 dX7_isLastTurningSame_74 rfl (lv_at hl 0 rfl) ?_
    obtain ⟨a3, ea3, h⟩ := h
    refine g7_12 C0 hO i1 ea3 tb_147 dX7_isLastTurningSame_75 ?_
    obtain ⟨i4, h⟩ := h
    obtain ⟨a5, ea5, h⟩ := h
    refine g6_0 C0 hO i4 ea5 tb_114 dX7_isLastTurningSame_78 ?_
    refine lv_iload_n C0.1 C0.2.1 dX7_isLastTurningSame_81 rfl (lv_at hl 1 rfl) ?_
    refine lv_aload_n C0.1 C0.2.1 dX7_isLastTurningSame_82 rfl (lv_at hl 0 rfl) ?_
    obtain ⟨a6, ea6, h⟩ := h
    refine g7_10 C0 hO i1 ea6 tb_145 dX7_isLastTurningSame_83 ?_
    obtain ⟨i7, h⟩ := h
    obtain ⟨a8, ea8, h⟩ := h
    refine g6_0 C0 hO i7 ea8 tb_114 dX7_isLastTurningSame_86 ?_
    obtain ⟨i11, h⟩ := h
    refine c_V C0 hO hS (mX4_isSame h) i11 (by decide) rfl rfl tb_425 tb_426 tb_427 tb_31 tb_428 hd_X4_isSame rfl ⟨⟨by decide, by decide⟩, by decide, by decide⟩ hl.1 rfl (Nat.le_of_ble_eq_true rfl) dX7_isLastTurningSame_89 (kI (fun r10 S9 H locs h hO hS => ?_))
    refine lv_if_ne (tgt := 97) C0.1 C0.2.1 dX7_isLastTurningSame_92 (by decide) (fun c12 => ?_) (fun c12 => ?_)
    · have h := h.1 c12
      refine lv_iinc (v := _ + 1) C0.1 C0.2.1 dX7_isLastTurningSame_97 hl (k := 1) rfl rfl (by decide) rfl (fun ls hl => ?_)
      refine lv_goto (tgt := 66) C0.1 C0.2.1 dX7_isLastTurningSame_100 (by decide) ?_
      exact hk66 _ _ _ _ _ h hO hS (lv_sub hl [1, 0] rfl)
    · have h := h.2 c12
      refine lv_iconst (v := 0) C0.1 C0.2.1 dX7_isLastTurningSame_95 (by decide) ?_
      exact e_Z C0 Y hO hS rfl h (Nat.le_refl _) (Nat.le_refl _) dX7_isLastTurningSame_96
set_option maxHeartbeats 4000000 in
set_option maxRecDepth 100000 in
theorem lX7_isLastTurningSame_b66 {p : Program} {l : Launch} {e : Env} {s : State} {m : MethodId} {args : Array Value} {below : List Frame} {meth : Method} {c : Code} {G : Gw} {x0 : Nat} {Φ : Hp → Int32 → Prop} (C0 : Mx p s m c cX7_isLastTurningSame 2 args yX7_isLastTurningSame.cls G) (Y : My meth (some .boolean))  : ∀ n9 : Nat, ∀ (S : Hp) (v1 : Int32) (H : Heap) (locs : List Loc) (ls : Array Slot), it2 (wX7_isLastTurningSame_b66 x0 Φ) n9 S v1 → Ok G S H → va_S (Ab G.b) s.heap H locs → lv_has ls 2 [(0, .ref x0), (1, .int v1)] → W p l e rm_X7_isLastTurningSame s m args below meth c H locs 0 0 (MQ below (gQ G (PI Φ)) args s rm_X7_isLastTurningSame.cells rm_X7_isLastTurningSame.slots (Ab G.b)) (F0 m 66 ls []) := by
  intro n9
  induction n9 with
  | zero => intro S v1 H locs ls h; exact (h : False).elim
  | succ n9 ih => intro S v1 H locs ls h hO hS hl; exact bX7_isLastTurningSame_b66 C0 Y ih S v1 H locs ls h hO hS hl
def wX7_isLastTurningSame_b23 (x0 : Nat) (Φ : Hp → Int32 → Prop) (k23 : Hp → Int32 → Prop) (S : Hp) (v1 : Int32) : Prop := isA S x0 7 ∧ (((if 0 ≤ (S.FI 463 x0) then (S.FI 463 x0) else 0 - (S.FI 463 x0)) ≤ v1 → ∃ n, it2 (wX7_isLastTurningSame_b66 x0 Φ) n S 0) ∧ (¬ ((if 0 ≤ (S.FI 463 x0) then (S.FI 463 x0) else 0 - (S.FI 463 x0)) ≤ v1) → ∃ a3, S.FR 460 x0 = some a3 ∧ ((0 ≤ (S.FI 463 x0) → wX7_isLastTurningSame_b55 x0 Φ k23 S v1 x0 a3 (S.FI 462 x0) 1) ∧ (¬ (0 ≤ (S.FI 463 x0)) → wX7_isLastTurningSame_b55 x0 Φ k23 S v1 x0 a3 (S.FI 462 x0) (-1)))))
set_option maxHeartbeats 4000000 in
set_option maxRecDepth 100000 in
theorem bX7_isLastTurningSame_b23 {p : Program} {l : Launch} {e : Env} {s : State} {m : MethodId} {args : Array Value} {below : List Frame} {meth : Method} {c : Code} {G : Gw} {x0 : Nat} {Φ : Hp → Int32 → Prop} (C0 : Mx p s m c cX7_isLastTurningSame 2 args yX7_isLastTurningSame.cls G) (Y : My meth (some .boolean)) {k23 : Hp → Int32 → Prop} (hk23 : ∀ (S : Hp) (v1 : Int32) (H : Heap) (locs : List Loc) (ls : Array Slot), k23 S v1 → Ok G S H → va_S (Ab G.b) s.heap H locs → lv_has ls 2 [(0, .ref x0), (1, .int v1)] → W p l e rm_X7_isLastTurningSame s m args below meth c H locs 0 0 (MQ below (gQ G (PI Φ)) args s rm_X7_isLastTurningSame.cells rm_X7_isLastTurningSame.slots (Ab G.b)) (F0 m 23 ls [])) : ∀ (S : Hp) (v1 : Int32) (H : Heap) (locs : List Loc) (ls : Array Slot), wX7_isLastTurningSame_b23 x0 Φ k23 S v1 → Ok G S H → va_S (Ab G.b) s.heap H locs → lv_has ls 2 [(0, .ref x0), (1, .int v1)] → W p l e rm_X7_isLastTurningSame s m args below meth c H locs 0 0 (MQ below (gQ G (PI Φ)) args s rm_X7_isLastTurningSame.cells rm_X7_isLastTurningSame.slots (Ab G.b)) (F0 m 23 ls []) := by
  intro S v1 H locs ls h hO hS hl
  unfold wX7_isLastTurningSame_b23 at h
  refine lv_iload_n C0.1 C0.2.1 dX7_isLastTurningSame_23 rfl (lv_at hl 1 rfl) ?_
  refine lv_aload_n C0.1 C0.2.1 dX7_isLastTurningSame_24 rfl (lv_at hl 0 rfl) ?_
  obtain ⟨i1, h⟩ := h
  refine g7_15 C0 hO i1 tb_150 dX7_isLastTurningSame_25 ?_
  refine va_mabs C0.1 C0.2.1 (C0.2.2.1.trans hl.1.symm) C0.2.2.2.1 (C0.2.2.2.2.1 _ tb_337) (C0.2.2.2.2.1 _ tb_338) (C0.2.2.2.2.1 _ tb_42) (C0.2.2.2.2.1 _ tb_339) (Nat.le_of_ble_eq_true rfl) (Nat.le_of_ble_eq_true rfl) (by decide) (by decide) dX7_isLastTurningSame_28 ?_
  refine lv_icmp_ge (tgt := 64) C0.1 C0.2.1 dX7_isLastTurningSame_31 (by decide) (fun c2 => ?_) (fun c2 => ?_)
  · have h := h.1 c2
    refine lv_iconst (v := 0) C0.1 C0.2.1 dX7_isLastTurningSame_64 (by decide) ?_
    refine lv_istore_n C0.1 C0.2.1 dX7_isLastTurningSame_65 rfl hl (by decide) rfl (fun ls hl => ?_)
    obtain ⟨n9, h⟩ := h
    exact lX7_isLastTurningSame_b66 C0 Y n9 _ _ _ _ _ h hO hS (lv_sub hl [1, 0] rfl)
  · have h := h.2 c2
    refine lv_aload_n C0.1 C0.2.1 dX7_isLastTurningSame_34 rfl (lv_at hl 0 rfl) ?_
    refine lv_aload_n C0.1 C0.2.1 dX7_isLastTurningSame_35 rfl (lv_at hl 0 rfl) ?_
    obtain ⟨a3, ea3, h⟩ := h
    refine g7_12 C0 hO i1 ea3 tb_147 dX7_isLastTurningSame_36 ?_
    refine lv_aload_n C0.1 C0.2.1 dX7_isLastTurningSame_39 rfl (lv_at hl 0 rfl) ?_
    refine g7_14 C0 hO i1 tb_149 dX7_isLastTurningSame_40 ?_
    refine lv_aload_n C0.1 C0.2.1 dX7_isLastTurningSame_43 rfl (lv_at hl 0 rfl) ?_
    refine g7_15 C0 hO i1 tb_150 dX7_isLastTurningSame_44 ?_
    refine lv_if_ge (tgt := 54) C0.1 C0.2.1 dX7_isLastTurningSame_47 (by decide) (fun c4 => ?_) (fun c4 => ?_)
    · have h := h.1 c4
      refine lv_iconst (v := 1) C0.1 C0.2.1 dX7_isLastTurningSame_54 (by decide) ?_
      exact bX7_isLastTurningSame_b55 C0 Y hk23 _ _ _ _ _ _ _ _ _ h hO hS (lv_sub hl [0, 1] rfl)
    · have h := h.2 c4
      refine lv_iconst (v := (-1)) C0.1 C0.2.1 dX7_isLastTurningSame_50 (by decide) ?_
      refine lv_goto (tgt := 55) C0.1 C0.2.1 dX7_isLastTurningSame_51 (by decide) ?_
      exact bX7_isLastTurningSame_b55 C0 Y hk23 _ _ _ _ _ _ _ _ _ h hO hS (lv_sub hl [0, 1] rfl)
set_option maxHeartbeats 4000000 in
set_option maxRecDepth 100000 in
theorem lX7_isLastTurningSame_b23 {p : Program} {l : Launch} {e : Env} {s : State} {m : MethodId} {args : Array Value} {below : List Frame} {meth : Method} {c : Code} {G : Gw} {x0 : Nat} {Φ : Hp → Int32 → Prop} (C0 : Mx p s m c cX7_isLastTurningSame 2 args yX7_isLastTurningSame.cls G) (Y : My meth (some .boolean))  : ∀ n9 : Nat, ∀ (S : Hp) (v1 : Int32) (H : Heap) (locs : List Loc) (ls : Array Slot), it2 (wX7_isLastTurningSame_b23 x0 Φ) n9 S v1 → Ok G S H → va_S (Ab G.b) s.heap H locs → lv_has ls 2 [(0, .ref x0), (1, .int v1)] → W p l e rm_X7_isLastTurningSame s m args below meth c H locs 0 0 (MQ below (gQ G (PI Φ)) args s rm_X7_isLastTurningSame.cells rm_X7_isLastTurningSame.slots (Ab G.b)) (F0 m 23 ls []) := by
  intro n9
  induction n9 with
  | zero => intro S v1 H locs ls h; exact (h : False).elim
  | succ n9 ih => intro S v1 H locs ls h hO hS hl; exact bX7_isLastTurningSame_b23 C0 Y ih S v1 H locs ls h hO hS hl
def wX7_isLastTurningSame_b0 (x0 : Nat) (Φ : Hp → Int32 → Prop) (S : Hp) : Prop := isA S x0 7 ∧ ((¬ (S.FI 462 x0) = (-1) → ∃ a3, S.FR 460 x0 = some a3 ∧ ∃ a4, S.FR 459 x0 = some a4 ∧ isA S a3 6 ∧ wX6_copyFrom S a3 a4 (fun S5 => ∃ n, it2 (wX7_isLastTurningSame_b23 x0 Φ) n S5 0)) ∧ ((S.FI 462 x0) = (-1) → Φ S 1))
set_option maxHeartbeats 4000000 in
set_option maxRecDepth 100000 in
theorem bX7_isLastTurningSame_b0 {p : Program} {l : Launch} {e : Env} {s : State} {m : MethodId} {args : Array Value} {below : List Frame} {meth : Method} {c : Code} {G : Gw} {x0 : Nat} {Φ : Hp → Int32 → Prop} (C0 : Mx p s m c cX7_isLastTurningSame 2 args yX7_isLastTurningSame.cls G) (Y : My meth (some .boolean))  : ∀ (S : Hp) (H : Heap) (locs : List Loc) (ls : Array Slot), wX7_isLastTurningSame_b0 x0 Φ S → Ok G S H → va_S (Ab G.b) s.heap H locs → lv_has ls 2 [(0, .ref x0)] → W p l e rm_X7_isLastTurningSame s m args below meth c H locs 0 0 (MQ below (gQ G (PI Φ)) args s rm_X7_isLastTurningSame.cells rm_X7_isLastTurningSame.slots (Ab G.b)) (F0 m 0 ls []) := by
  intro S H locs ls h hO hS hl
  unfold wX7_isLastTurningSame_b0 at h
  refine lv_aload_n C0.1 C0.2.1 dX7_isLastTurningSame_0 rfl (lv_at hl 0 rfl) ?_
  obtain ⟨i1, h⟩ := h
  refine g7_14 C0 hO i1 tb_149 dX7_isLastTurningSame_1 ?_
  refine lv_iconst (v := (-1)) C0.1 C0.2.1 dX7_isLastTurningSame_4 (by decide) ?_
  refine lv_icmp_ne (tgt := 10) C0.1 C0.2.1 dX7_isLastTurningSame_5 (by decide) (fun c2 => ?_) (fun c2 => ?_)
  · have h := h.1 c2
    refine lv_aload_n C0.1 C0.2.1 dX7_isLastTurningSame_10 rfl (lv_at hl 0 rfl) ?_
    obtain ⟨a3, ea3, h⟩ := h
    refine g7_12 C0 hO i1 ea3 tb_147 dX7_isLastTurningSame_11 ?_
    refine lv_aload_n C0.1 C0.2.1 dX7_isLastTurningSame_14 rfl (lv_at hl 0 rfl) ?_
    obtain ⟨a4, ea4, h⟩ := h
    refine g7_11 C0 hO i1 ea4 tb_146 dX7_isLastTurningSame_15 ?_
    obtain ⟨i6, h⟩ := h
    refine c_V C0 hO hS (mX6_copyFrom h) i6 (by decide) rfl rfl tb_323 tb_324 tb_325 tb_33 tb_326 hd_X6_copyFrom rfl ⟨⟨by decide, by decide⟩, by decide, by decide⟩ hl.1 rfl (Nat.le_of_ble_eq_true rfl) dX7_isLastTurningSame_18 (kV (fun S5 H locs h hO hS => ?_))
    refine lv_iconst (v := 0) C0.1 C0.2.1 dX7_isLastTurningSame_21 (by decide) ?_
    refine lv_istore_n C0.1 C0.2.1 dX7_isLastTurningSame_22 rfl hl (by decide) rfl (fun ls hl => ?_)
    obtain ⟨n9, h⟩ := h
    exact lX7_isLastTurningSame_b23 C0 Y n9 _ _ _ _ _ h hO hS (lv_sub hl [1, 0] rfl)
  · have h := h.2 c2
    refine lv_iconst (v := 1) C0.1 C0.2.1 dX7_isLastTurningSame_8 (by decide) ?_
    exact e_Z C0 Y hO hS rfl h (Nat.le_refl _) (Nat.le_refl _) dX7_isLastTurningSame_9
def wX7_isLastTurningSame (S : Hp) (x0 : Nat) (Φ : Hp → Int32 → Prop) : Prop := wX7_isLastTurningSame_b0 x0 Φ S
set_option maxRecDepth 100000 in
theorem mX7_isLastTurningSame {l : Launch} {G : Gw} {S : Hp} {x0 : Nat} {Φ : Hp → Int32 → Prop} (h : wX7_isLastTurningSame S x0 Φ) : gM l yX7_isLastTurningSame cX7_isLastTurningSame 2 (some .boolean) rm_X7_isLastTurningSame [.ref x0] G S (PI Φ) := by
  unfold gM
  refine Met.ofW (cc := cX7_isLastTurningSame) (maxL := 2) (ret := (some .boolean)) (by decide) rfl ?_
  intro p e s m args below meth c s₁ B hml hv
  obtain ⟨rfl, hw⟩ := hv
  obtain ⟨C0, Y, hO⟩ := mx_of B hml hw
  have hS : va_S (Ab G.b) s.heap s.heap [] := va_S.rf
  have hl := lv_entry ([.ref x0]) (n := 2) (Nat.le_of_ble_eq_true rfl)
  rw [lg_entry_eq]
  generalize (lg_sl ([.ref x0]) ++ List.replicate (2 - (lg_sl ([.ref x0])).length) Slot.unset).toArray = ls at hl ⊢
  have hl : lv_has ls 2 [(0, .ref x0)] := hl
  exact bX7_isLastTurningSame_b0 C0 Y S _ _ _ h hO hS hl

def rm_X7_areInputsWhole : Room := { frames := 3, cells := 0, slots := 0, locals := 67 }
def wX7_areInputsWhole_b39 (x0 : Nat) (Φ : Hp → Int32 → Prop) (k2 : Hp → Int32 → Prop) (S : Hp) (v1 : Int32) : Prop := k2 S (v1 + 1)
set_option maxHeartbeats 4000000 in
set_option maxRecDepth 100000 in
theorem bX7_areInputsWhole_b39 {p : Program} {l : Launch} {e : Env} {s : State} {m : MethodId} {args : Array Value} {below : List Frame} {meth : Method} {c : Code} {G : Gw} {x0 : Nat} {Φ : Hp → Int32 → Prop} (C0 : Mx p s m c cX7_areInputsWhole 2 args yX7_areInputsWhole.cls G) (Y : My meth (some .boolean)) {k2 : Hp → Int32 → Prop} (hk2 : ∀ (S : Hp) (v1 : Int32) (H : Heap) (locs : List Loc) (ls : Array Slot), k2 S v1 → Ok G S H → va_S (Ab G.b) s.heap H locs → lv_has ls 2 [(0, .ref x0), (1, .int v1)] → W p l e rm_X7_areInputsWhole s m args below meth c H locs 0 0 (MQ below (gQ G (PI Φ)) args s rm_X7_areInputsWhole.cells rm_X7_areInputsWhole.slots (Ab G.b)) (F0 m 2 ls [])) : ∀ (S : Hp) (v1 : Int32) (H : Heap) (locs : List Loc) (ls : Array Slot), wX7_areInputsWhole_b39 x0 Φ k2 S v1 → Ok G S H → va_S (Ab G.b) s.heap H locs → lv_has ls 2 [(0, .ref x0), (1, .int v1)] → W p l e rm_X7_areInputsWhole s m args below meth c H locs 0 0 (MQ below (gQ G (PI Φ)) args s rm_X7_areInputsWhole.cells rm_X7_areInputsWhole.slots (Ab G.b)) (F0 m 39 ls []) := by
  intro S v1 H locs ls h hO hS hl
  unfold wX7_areInputsWhole_b39 at h
  refine lv_iinc (v := _ + 1) C0.1 C0.2.1 dX7_areInputsWhole_39 hl (k := 1) rfl rfl (by decide) rfl (fun ls hl => ?_)
  refine lv_goto (tgt := 2) C0.1 C0.2.1 dX7_areInputsWhole_42 (by decide) ?_
  exact hk2 _ _ _ _ _ h hO hS (lv_sub hl [1, 0] rfl)
def wX7_areInputsWhole_b2 (x0 : Nat) (Φ : Hp → Int32 → Prop) (k2 : Hp → Int32 → Prop) (S : Hp) (v1 : Int32) : Prop := isA S x0 7 ∧ (((S.FI 461 x0) ≤ v1 → Φ S 1) ∧ (¬ ((S.FI 461 x0) ≤ v1) → ∃ a3, S.FR 452 x0 = some a3 ∧ isA S a3 21 ∧ vp_in v1 (S.N a3) ∧ ((¬ (S.AI a3 v1.toNatClampNeg) = (-1) → wX7_areInputsWhole_b39 x0 Φ k2 S v1) ∧ ((S.AI a3 v1.toNatClampNeg) = (-1) → ∃ a7, S.FR 458 x0 = some a7 ∧ isA S a7 6 ∧ ∃ a9, S.FR 384 a7 = some a9 ∧ isA S a9 4 ∧ wX4_isWholeTimes S a9 v1 24 (fun S10 r11 => ((¬ r11 = 0 → wX7_areInputsWhole_b39 x0 Φ k2 S10 v1) ∧ (r11 = 0 → Φ S10 0)))))))
set_option maxHeartbeats 4000000 in
set_option maxRecDepth 100000 in
theorem bX7_areInputsWhole_b2 {p : Program} {l : Launch} {e : Env} {s : State} {m : MethodId} {args : Array Value} {below : List Frame} {meth : Method} {c : Code} {G : Gw} {x0 : Nat} {Φ : Hp → Int32 → Prop} (C0 : Mx p s m c cX7_areInputsWhole 2 args yX7_areInputsWhole.cls G) (Y : My meth (some .boolean)) {k2 : Hp → Int32 → Prop} (hk2 : ∀ (S : Hp) (v1 : Int32) (H : Heap) (locs : List Loc) (ls : Array Slot), k2 S v1 → Ok G S H → va_S (Ab G.b) s.heap H locs → lv_has ls 2 [(0, .ref x0), (1, .int v1)] → W p l e rm_X7_areInputsWhole s m args below meth c H locs 0 0 (MQ below (gQ G (PI Φ)) args s rm_X7_areInputsWhole.cells rm_X7_areInputsWhole.slots (Ab G.b)) (F0 m 2 ls [])) : ∀ (S : Hp) (v1 : Int32) (H : Heap) (locs : List Loc) (ls : Array Slot), wX7_areInputsWhole_b2 x0 Φ k2 S v1 → Ok G S H → va_S (Ab G.b) s.heap H locs → lv_has ls 2 [(0, .ref x0), (1, .int v1)] → W p l e rm_X7_areInputsWhole s m args below meth c H locs 0 0 (MQ below (gQ G (PI Φ)) args s rm_X7_areInputsWhole.cells rm_X7_areInputsWhole.slots (Ab G.b)) (F0 m 2 ls []) := by
  intro S v1 H locs ls h hO hS hl
  unfold wX7_areInputsWhole_b2 at h
  refine lv_iload_n C0.1 C0.2.1 dX7_areInputsWhole_2 rfl (lv_at hl 1 rfl) ?_
  refine lv_aload_n C0.1 C0.2.1 dX7_areInputsWhole_3 rfl (lv_at hl 0 rfl) ?_
  obtain ⟨i1, h⟩ := h
  refine g7_13 C0 hO i1 tb_148 dX7_areInputsWhole_4 ?_
  refine lv_icmp_ge (tgt := 45) C0.1 C0.2.1 dX7_areInputsWhole_7 (by decide) (fun c2 => ?_) (fun c2 => ?_)
  · have h := h.1 c2
    refine lv_iconst (v := 1) C0.1 C0.2.1 dX7_areInputsWhole_45 (by decide) ?_
    exact e_Z C0 Y hO hS rfl h (Nat.le_refl _) (Nat.le_refl _) dX7_areInputsWhole_46
  · have h := h.2 c2
    refine lv_aload_n C0.1 C0.2.1 dX7_areInputsWhole_10 rfl (lv_at hl 0 rfl) ?_
    obtain ⟨a3, ea3, h⟩ := h
    refine g7_4 C0 hO i1 ea3 tb_139 dX7_areInputsWhole_11 ?_
    refine lv_iload_n C0.1 C0.2.1 dX7_areInputsWhole_14 rfl (lv_at hl 1 rfl) ?_
    obtain ⟨i4, h⟩ := h
    obtain ⟨e5, h⟩ := h
    refine r_iald C0 hO i4 e5 dX7_areInputsWhole_15 ?_
    refine lv_iconst (v := (-1)) C0.1 C0.2.1 dX7_areInputsWhole_16 (by decide) ?_
    refine lv_icmp_ne (tgt := 39) C0.1 C0.2.1 dX7_areInputsWhole_17 (by decide) (fun c6 => ?_) (fun c6 => ?_)
    · have h := h.1 c6
      exact bX7_areInputsWhole_b39 C0 Y hk2 _ _ _ _ _ h hO hS (lv_sub hl [0, 1] rfl)
    · have h := h.2 c6
      refine lv_aload_n C0.1 C0.2.1 dX7_areInputsWhole_20 rfl (lv_at hl 0 rfl) ?_
      obtain ⟨a7, ea7, h⟩ := h
      refine g7_10 C0 hO i1 ea7 tb_145 dX7_areInputsWhole_21 ?_
      obtain ⟨i8, h⟩ := h
      obtain ⟨a9, ea9, h⟩ := h
      refine g6_0 C0 hO i8 ea9 tb_114 dX7_areInputsWhole_24 ?_
      refine lv_iload_n C0.1 C0.2.1 dX7_areInputsWhole_27 rfl (lv_at hl 1 rfl) ?_
      refine lv_ldc2 (v := 24) C0.1 C0.2.1 C0.2.2.2.1 (C0.2.2.2.2.1 _ tb_434) dX7_areInputsWhole_28 ?_
      obtain ⟨i12, h⟩ := h
      refine c_V C0 hO hS (mX4_isWholeTimes h) i12 (by decide) rfl rfl tb_435 tb_436 tb_437 tb_31 tb_438 hd_X4_isWholeTimes rfl ⟨⟨by decide, by decide⟩, by decide, by decide⟩ hl.1 rfl (Nat.le_of_ble_eq_true rfl) dX7_areInputsWhole_31 (kI (fun r11 S10 H locs h hO hS => ?_))
      refine lv_if_ne (tgt := 39) C0.1 C0.2.1 dX7_areInputsWhole_34 (by decide) (fun c13 => ?_) (fun c13 => ?_)
      · have h := h.1 c13
        exact bX7_areInputsWhole_b39 C0 Y hk2 _ _ _ _ _ h hO hS (lv_sub hl [0, 1] rfl)
      · have h := h.2 c13
        refine lv_iconst (v := 0) C0.1 C0.2.1 dX7_areInputsWhole_37 (by decide) ?_
        exact e_Z C0 Y hO hS rfl h (Nat.le_refl _) (Nat.le_refl _) dX7_areInputsWhole_38
set_option maxHeartbeats 4000000 in
set_option maxRecDepth 100000 in
theorem lX7_areInputsWhole_b2 {p : Program} {l : Launch} {e : Env} {s : State} {m : MethodId} {args : Array Value} {below : List Frame} {meth : Method} {c : Code} {G : Gw} {x0 : Nat} {Φ : Hp → Int32 → Prop} (C0 : Mx p s m c cX7_areInputsWhole 2 args yX7_areInputsWhole.cls G) (Y : My meth (some .boolean))  : ∀ n9 : Nat, ∀ (S : Hp) (v1 : Int32) (H : Heap) (locs : List Loc) (ls : Array Slot), it2 (wX7_areInputsWhole_b2 x0 Φ) n9 S v1 → Ok G S H → va_S (Ab G.b) s.heap H locs → lv_has ls 2 [(0, .ref x0), (1, .int v1)] → W p l e rm_X7_areInputsWhole s m args below meth c H locs 0 0 (MQ below (gQ G (PI Φ)) args s rm_X7_areInputsWhole.cells rm_X7_areInputsWhole.slots (Ab G.b)) (F0 m 2 ls []) := by
  intro n9
  induction n9 with
  | zero => intro S v1 H locs ls h; exact (h : False).elim
  | succ n9 ih => intro S v1 H locs ls h hO hS hl; exact bX7_areInputsWhole_b2 C0 Y ih S v1 H locs ls h hO hS hl
def wX7_areInputsWhole_b0 (x0 : Nat) (Φ : Hp → Int32 → Prop) (S : Hp) : Prop := ∃ n, it2 (wX7_areInputsWhole_b2 x0 Φ) n S 0
set_option maxHeartbeats 4000000 in
set_option maxRecDepth 100000 in
theorem bX7_areInputsWhole_b0 {p : Program} {l : Launch} {e : Env} {s : State} {m : MethodId} {args : Array Value} {below : List Frame} {meth : Method} {c : Code} {G : Gw} {x0 : Nat} {Φ : Hp → Int32 → Prop} (C0 : Mx p s m c cX7_areInputsWhole 2 args yX7_areInputsWhole.cls G) (Y : My meth (some .boolean))  : ∀ (S : Hp) (H : Heap) (locs : List Loc) (ls : Array Slot), wX7_areInputsWhole_b0 x0 Φ S → Ok G S H → va_S (Ab G.b) s.heap H locs → lv_has ls 2 [(0, .ref x0)] → W p l e rm_X7_areInputsWhole s m args below meth c H locs 0 0 (MQ below (gQ G (PI Φ)) args s rm_X7_areInputsWhole.cells rm_X7_areInputsWhole.slots (Ab G.b)) (F0 m 0 ls []) := by
  intro S H locs ls h hO hS hl
  unfold wX7_areInputsWhole_b0 at h
  refine lv_iconst (v := 0) C0.1 C0.2.1 dX7_areInputsWhole_0 (by decide) ?_
  refine lv_istore_n C0.1 C0.2.1 dX7_areInputsWhole_1 rfl hl (by decide) rfl (fun ls hl => ?_)
  obtain ⟨n9, h⟩ := h
  exact lX7_areInputsWhole_b2 C0 Y n9 _ _ _ _ _ h hO hS (lv_sub hl [1, 0] rfl)
def wX7_areInputsWhole (S : Hp) (x0 : Nat) (Φ : Hp → Int32 → Prop) : Prop := wX7_areInputsWhole_b0 x0 Φ S
set_option maxRecDepth 100000 in
theorem mX7_areInputsWhole {l : Launch} {G : Gw} {S : Hp} {x0 : Nat} {Φ : Hp → Int32 → Prop} (h : wX7_areInputsWhole S x0 Φ) : gM l yX7_areInputsWhole cX7_areInputsWhole 2 (some .boolean) rm_X7_areInputsWhole [.ref x0] G S (PI Φ) := by
  unfold gM
  refine Met.ofW (cc := cX7_areInputsWhole) (maxL := 2) (ret := (some .boolean)) (by decide) rfl ?_
  intro p e s m args below meth c s₁ B hml hv
  obtain ⟨rfl, hw⟩ := hv
  obtain ⟨C0, Y, hO⟩ := mx_of B hml hw
  have hS : va_S (Ab G.b) s.heap s.heap [] := va_S.rf
  have hl := lv_entry ([.ref x0]) (n := 2) (Nat.le_of_ble_eq_true rfl)
  rw [lg_entry_eq]
  generalize (lg_sl ([.ref x0]) ++ List.replicate (2 - (lg_sl ([.ref x0])).length) Slot.unset).toArray = ls at hl ⊢
  have hl : lv_has ls 2 [(0, .ref x0)] := hl
  exact bX7_areInputsWhole_b0 C0 Y S _ _ _ h hO hS hl

def rm_X7_areCamsClosed : Room := { frames := 3, cells := 0, slots := 0, locals := 64 }
def wX7_areCamsClosed_b51 (x0 : Nat) (Φ : Hp → Int32 → Prop) (k2 : Hp → Int32 → Prop) (S : Hp) (v1 : Int32) : Prop := k2 S (v1 + 1)
set_option maxHeartbeats 4000000 in
set_option maxRecDepth 100000 in
theorem bX7_areCamsClosed_b51 {p : Program} {l : Launch} {e : Env} {s : State} {m : MethodId} {args : Array Value} {below : List Frame} {meth : Method} {c : Code} {G : Gw} {x0 : Nat} {Φ : Hp → Int32 → Prop} (C0 : Mx p s m c cX7_areCamsClosed 3 args yX7_areCamsClosed.cls G) (Y : My meth (some .boolean)) {k2 : Hp → Int32 → Prop} (hk2 : ∀ (S : Hp) (v1 : Int32) (H : Heap) (locs : List Loc) (ls : Array Slot), k2 S v1 → Ok G S H → va_S (Ab G.b) s.heap H locs → lv_has ls 3 [(0, .ref x0), (1, .int v1)] → W p l e rm_X7_areCamsClosed s m args below meth c H locs 0 0 (MQ below (gQ G (PI Φ)) args s rm_X7_areCamsClosed.cells rm_X7_areCamsClosed.slots (Ab G.b)) (F0 m 2 ls [])) : ∀ (S : Hp) (v1 : Int32) (H : Heap) (locs : List Loc) (ls : Array Slot), wX7_areCamsClosed_b51 x0 Φ k2 S v1 → Ok G S H → va_S (Ab G.b) s.heap H locs → lv_has ls 3 [(0, .ref x0), (1, .int v1)] → W p l e rm_X7_areCamsClosed s m args below meth c H locs 0 0 (MQ below (gQ G (PI Φ)) args s rm_X7_areCamsClosed.cells rm_X7_areCamsClosed.slots (Ab G.b)) (F0 m 51 ls []) := by
  intro S v1 H locs ls h hO hS hl
  unfold wX7_areCamsClosed_b51 at h
  refine lv_iinc (v := _ + 1) C0.1 C0.2.1 dX7_areCamsClosed_51 hl (k := 1) rfl rfl (by decide) rfl (fun ls hl => ?_)
  refine lv_goto (tgt := 2) C0.1 C0.2.1 dX7_areCamsClosed_54 (by decide) ?_
  exact hk2 _ _ _ _ _ h hO hS (lv_sub hl [1, 0] rfl)
def wX7_areCamsClosed_b2 (x0 : Nat) (Φ : Hp → Int32 → Prop) (k2 : Hp → Int32 → Prop) (S : Hp) (v1 : Int32) : Prop := isA S x0 7 ∧ ∃ a2, S.FR 450 x0 = some a2 ∧ isA S a2 9 ∧ wJx4a65c_size_8abf5 S a2 (fun S3 r4 => ((r4 ≤ v1 → Φ S3 1) ∧ (¬ (r4 ≤ v1) → isA S3 x0 7 ∧ ∃ a8, S3.FR 450 x0 = some a8 ∧ isA S3 a8 9 ∧ wJx4a65c_get_915e3 S3 a8 v1 (fun S9 r10 => ∃ a12, r10 = some a12 ∧ False))))
set_option maxHeartbeats 4000000 in
set_option maxRecDepth 100000 in
theorem bX7_areCamsClosed_b2 {p : Program} {l : Launch} {e : Env} {s : State} {m : MethodId} {args : Array Value} {below : List Frame} {meth : Method} {c : Code} {G : Gw} {x0 : Nat} {Φ : Hp → Int32 → Prop} (C0 : Mx p s m c cX7_areCamsClosed 3 args yX7_areCamsClosed.cls G) (Y : My meth (some .boolean)) {k2 : Hp → Int32 → Prop} (hk2 : ∀ (S : Hp) (v1 : Int32) (H : Heap) (locs : List Loc) (ls : Array Slot), k2 S v1 → Ok G S H → va_S (Ab G.b) s.heap H locs → lv_has ls 3 [(0, .ref x0), (1, .int v1)] → W p l e rm_X7_areCamsClosed s m args below meth c H locs 0 0 (MQ below (gQ G (PI Φ)) args s rm_X7_areCamsClosed.cells rm_X7_areCamsClosed.slots (Ab G.b)) (F0 m 2 ls [])) : ∀ (S : Hp) (v1 : Int32) (H : Heap) (locs : List Loc) (ls : Array Slot), wX7_areCamsClosed_b2 x0 Φ k2 S v1 → Ok G S H → va_S (Ab G.b) s.heap H locs → lv_has ls 3 [(0, .ref x0), (1, .int v1)] → W p l e rm_X7_areCamsClosed s m args below meth c H locs 0 0 (MQ below (gQ G (PI Φ)) args s rm_X7_areCamsClosed.cells rm_X7_areCamsClosed.slots (Ab G.b)) (F0 m 2 ls []) := by
  intro S v1 H locs ls h hO hS hl
  unfold wX7_areCamsClosed_b2 at h
  refine lv_iload_n C0.1 C0.2.1 dX7_areCamsClosed_2 rfl (lv_at hl 1 rfl) ?_
  refine lv_aload_n C0.1 C0.2.1 dX7_areCamsClosed_3 rfl (lv_at hl 0 rfl) ?_
  obtain ⟨i1, h⟩ := h
  obtain ⟨a2, ea2, h⟩ := h
  refine g7_2 C0 hO i1 ea2 tb_137 dX7_areCamsClosed_4 ?_
  obtain ⟨i5, h⟩ := h
  refine c_V C0 hO hS (mJx4a65c_size_8abf5 h) i5 (by decide) rfl rfl tb_204 tb_205 tb_206 tb_30 tb_207 hd_Jx4a65c_size_8abf5 rfl ⟨⟨by decide, by decide⟩, by decide, by decide⟩ hl.1 rfl (Nat.le_of_ble_eq_true rfl) dX7_areCamsClosed_7 (kI (fun r4 S3 H locs h hO hS => ?_))
  refine lv_icmp_ge (tgt := 57) C0.1 C0.2.1 dX7_areCamsClosed_10 (by decide) (fun c6 => ?_) (fun c6 => ?_)
  · have h := h.1 c6
    refine lv_iconst (v := 1) C0.1 C0.2.1 dX7_areCamsClosed_57 (by decide) ?_
    exact e_Z C0 Y hO hS rfl h (Nat.le_refl _) (Nat.le_refl _) dX7_areCamsClosed_58
  · have h := h.2 c6
    refine lv_aload_n C0.1 C0.2.1 dX7_areCamsClosed_13 rfl (lv_at hl 0 rfl) ?_
    obtain ⟨i7, h⟩ := h
    obtain ⟨a8, ea8, h⟩ := h
    refine g7_2 C0 hO i7 ea8 tb_137 dX7_areCamsClosed_14 ?_
    refine lv_iload_n C0.1 C0.2.1 dX7_areCamsClosed_17 rfl (lv_at hl 1 rfl) ?_
    obtain ⟨i11, h⟩ := h
    refine c_V C0 hO hS (mJx4a65c_get_915e3 h) i11 (by decide) rfl rfl tb_280 tb_281 tb_282 tb_30 tb_283 hd_Jx4a65c_get_915e3 rfl ⟨⟨by decide, by decide⟩, by decide, by decide⟩ hl.1 rfl (Nat.le_of_ble_eq_true rfl) dX7_areCamsClosed_18 (kR (fun r10 S9 H locs h hO hS => ?_))
    obtain ⟨a12, ea12, h⟩ := h
    subst ea12
    change W _ _ _ _ _ _ _ _ _ _ _ _ _ _ _ (F0 _ _ _ (.ref a12 :: _))
    exact h.elim
set_option maxHeartbeats 4000000 in
set_option maxRecDepth 100000 in
theorem lX7_areCamsClosed_b2 {p : Program} {l : Launch} {e : Env} {s : State} {m : MethodId} {args : Array Value} {below : List Frame} {meth : Method} {c : Code} {G : Gw} {x0 : Nat} {Φ : Hp → Int32 → Prop} (C0 : Mx p s m c cX7_areCamsClosed 3 args yX7_areCamsClosed.cls G) (Y : My meth (some .boolean))  : ∀ n9 : Nat, ∀ (S : Hp) (v1 : Int32) (H : Heap) (locs : List Loc) (ls : Array Slot), it2 (wX7_areCamsClosed_b2 x0 Φ) n9 S v1 → Ok G S H → va_S (Ab G.b) s.heap H locs → lv_has ls 3 [(0, .ref x0), (1, .int v1)] → W p l e rm_X7_areCamsClosed s m args below meth c H locs 0 0 (MQ below (gQ G (PI Φ)) args s rm_X7_areCamsClosed.cells rm_X7_areCamsClosed.slots (Ab G.b)) (F0 m 2 ls []) := by
  intro n9
  induction n9 with
  | zero => intro S v1 H locs ls h; exact (h : False).elim
  | succ n9 ih => intro S v1 H locs ls h hO hS hl; exact bX7_areCamsClosed_b2 C0 Y ih S v1 H locs ls h hO hS hl
def wX7_areCamsClosed_b0 (x0 : Nat) (Φ : Hp → Int32 → Prop) (S : Hp) : Prop := it2 (wX7_areCamsClosed_b2 x0 Φ) 10 S 0
set_option maxHeartbeats 4000000 in
set_option maxRecDepth 100000 in
theorem bX7_areCamsClosed_b0 {p : Program} {l : Launch} {e : Env} {s : State} {m : MethodId} {args : Array Value} {below : List Frame} {meth : Method} {c : Code} {G : Gw} {x0 : Nat} {Φ : Hp → Int32 → Prop} (C0 : Mx p s m c cX7_areCamsClosed 3 args yX7_areCamsClosed.cls G) (Y : My meth (some .boolean))  : ∀ (S : Hp) (H : Heap) (locs : List Loc) (ls : Array Slot), wX7_areCamsClosed_b0 x0 Φ S → Ok G S H → va_S (Ab G.b) s.heap H locs → lv_has ls 3 [(0, .ref x0)] → W p l e rm_X7_areCamsClosed s m args below meth c H locs 0 0 (MQ below (gQ G (PI Φ)) args s rm_X7_areCamsClosed.cells rm_X7_areCamsClosed.slots (Ab G.b)) (F0 m 0 ls []) := by
  intro S H locs ls h hO hS hl
  unfold wX7_areCamsClosed_b0 at h
  refine lv_iconst (v := 0) C0.1 C0.2.1 dX7_areCamsClosed_0 (by decide) ?_
  refine lv_istore_n C0.1 C0.2.1 dX7_areCamsClosed_1 rfl hl (by decide) rfl (fun ls hl => ?_)
  exact lX7_areCamsClosed_b2 C0 Y 10 _ _ _ _ _ h hO hS (lv_sub hl [1, 0] rfl)
def wX7_areCamsClosed (S : Hp) (x0 : Nat) (Φ : Hp → Int32 → Prop) : Prop := wX7_areCamsClosed_b0 x0 Φ S
set_option maxRecDepth 100000 in
theorem mX7_areCamsClosed {l : Launch} {G : Gw} {S : Hp} {x0 : Nat} {Φ : Hp → Int32 → Prop} (h : wX7_areCamsClosed S x0 Φ) : gM l yX7_areCamsClosed cX7_areCamsClosed 3 (some .boolean) rm_X7_areCamsClosed [.ref x0] G S (PI Φ) := by
  unfold gM
  refine Met.ofW (cc := cX7_areCamsClosed) (maxL := 3) (ret := (some .boolean)) (by decide) rfl ?_
  intro p e s m args below meth c s₁ B hml hv
  obtain ⟨rfl, hw⟩ := hv
  obtain ⟨C0, Y, hO⟩ := mx_of B hml hw
  have hS : va_S (Ab G.b) s.heap s.heap [] := va_S.rf
  have hl := lv_entry ([.ref x0]) (n := 3) (Nat.le_of_ble_eq_true rfl)
  rw [lg_entry_eq]
  generalize (lg_sl ([.ref x0]) ++ List.replicate (3 - (lg_sl ([.ref x0])).length) Slot.unset).toArray = ls at hl ⊢
  have hl : lv_has ls 3 [(0, .ref x0)] := hl
  exact bX7_areCamsClosed_b0 C0 Y S _ _ _ h hO hS hl

def rm_X7_isSound : Room := { frames := 6, cells := 0, slots := 0, locals := 153 }
def wX7_isSound_b0 (x0 : Nat) (Φ : Hp → Int32 → Prop) (S : Hp) : Prop := isA S x0 7 ∧ wX7_isLastTurningSame S x0 (fun S1 r2 => ((r2 = 0 → Φ S1 0) ∧ (¬ (r2 = 0) → isA S1 x0 7 ∧ wX7_areInputsWhole S1 x0 (fun S5 r6 => ((r6 = 0 → Φ S5 0) ∧ (¬ (r6 = 0) → isA S5 x0 7 ∧ wX7_areLevelsFit S5 x0 none (fun S9 r10 => ((r10 = 0 → Φ S9 0) ∧ (¬ (r10 = 0) → isA S9 x0 7 ∧ wX7_areCamsClosed S9 x0 (fun S13 r14 => ((r14 = 0 → Φ S13 0) ∧ (¬ (r14 = 0) → Φ S13 1))))))))))))
set_option maxHeartbeats 4000000 in
set_option maxRecDepth 100000 in
theorem bX7_isSound_b0 {p : Program} {l : Launch} {e : Env} {s : State} {m : MethodId} {args : Array Value} {below : List Frame} {meth : Method} {c : Code} {G : Gw} {x0 : Nat} {Φ : Hp → Int32 → Prop} (C0 : Mx p s m c cX7_isSound 1 args yX7_isSound.cls G) (Y : My meth (some .boolean))  : ∀ (S : Hp) (H : Heap) (locs : List Loc) (ls : Array Slot), wX7_isSound_b0 x0 Φ S → Ok G S H → va_S (Ab G.b) s.heap H locs → lv_has ls 1 [(0, .ref x0)] → W p l e rm_X7_isSound s m args below meth c H locs 0 0 (MQ below (gQ G (PI Φ)) args s rm_X7_isSound.cells rm_X7_isSound.slots (Ab G.b)) (F0 m 0 ls []) := by
  intro S H locs ls h hO hS hl
  unfold wX7_isSound_b0 at h
  refine lv_aload_n C0.1 C0.2.1 dX7_isSound_0 rfl (lv_at hl 0 rfl) ?_
  obtain ⟨i3, h⟩ := h
  refine c_V C0 hO hS (mX7_isLastTurningSame h) i3 (by decide) rfl rfl tb_319 tb_321 tb_4 tb_27 tb_322 hd_X7_isLastTurningSame rfl ⟨⟨by decide, by decide⟩, by decide, by decide⟩ hl.1 rfl (Nat.le_of_ble_eq_true rfl) dX7_isSound_1 (kI (fun r2 S1 H locs h hO hS => ?_))
  refine lv_if_eq (tgt := 33) C0.1 C0.2.1 dX7_isSound_4 (by decide) (fun c4 => ?_) (fun c4 => ?_)
  · have h := h.1 c4
    refine lv_iconst (v := 0) C0.1 C0.2.1 dX7_isSound_33 (by decide) ?_
    exact e_Z C0 Y hO hS rfl h (Nat.le_refl _) (Nat.le_refl _) dX7_isSound_34
  · have h := h.2 c4
    refine lv_aload_n C0.1 C0.2.1 dX7_isSound_7 rfl (lv_at hl 0 rfl) ?_
    obtain ⟨i7, h⟩ := h
    refine c_V C0 hO hS (mX7_areInputsWhole h) i7 (by decide) rfl rfl tb_430 tb_432 tb_8 tb_27 tb_433 hd_X7_areInputsWhole rfl ⟨⟨by decide, by decide⟩, by decide, by decide⟩ hl.1 rfl (Nat.le_of_ble_eq_true rfl) dX7_isSound_8 (kI (fun r6 S5 H locs h hO hS => ?_))
    refine lv_if_eq (tgt := 33) C0.1 C0.2.1 dX7_isSound_11 (by decide) (fun c8 => ?_) (fun c8 => ?_)
    · have h := h.1 c8
      refine lv_iconst (v := 0) C0.1 C0.2.1 dX7_isSound_33 (by decide) ?_
      exact e_Z C0 Y hO hS rfl h (Nat.le_refl _) (Nat.le_refl _) dX7_isSound_34
    · have h := h.2 c8
      refine lv_aload_n C0.1 C0.2.1 dX7_isSound_14 rfl (lv_at hl 0 rfl) ?_
      refine lv_null C0.1 C0.2.1 dX7_isSound_15 ?_
      obtain ⟨i11, h⟩ := h
      refine c_V C0 hO hS (mX7_areLevelsFit h) i11 (by decide) rfl rfl tb_439 tb_441 tb_9 tb_27 tb_442 hd_X7_areLevelsFit rfl ⟨⟨by decide, by decide⟩, by decide, by decide⟩ hl.1 rfl (Nat.le_of_ble_eq_true rfl) dX7_isSound_16 (kI (fun r10 S9 H locs h hO hS => ?_))
      refine lv_if_eq (tgt := 33) C0.1 C0.2.1 dX7_isSound_19 (by decide) (fun c12 => ?_) (fun c12 => ?_)
      · have h := h.1 c12
        refine lv_iconst (v := 0) C0.1 C0.2.1 dX7_isSound_33 (by decide) ?_
        exact e_Z C0 Y hO hS rfl h (Nat.le_refl _) (Nat.le_refl _) dX7_isSound_34
      · have h := h.2 c12
        refine lv_aload_n C0.1 C0.2.1 dX7_isSound_22 rfl (lv_at hl 0 rfl) ?_
        obtain ⟨i15, h⟩ := h
        refine c_V C0 hO hS (mX7_areCamsClosed h) i15 (by decide) rfl rfl tb_451 tb_453 tb_11 tb_27 tb_454 hd_X7_areCamsClosed rfl ⟨⟨by decide, by decide⟩, by decide, by decide⟩ hl.1 rfl (Nat.le_of_ble_eq_true rfl) dX7_isSound_23 (kI (fun r14 S13 H locs h hO hS => ?_))
        refine lv_if_eq (tgt := 33) C0.1 C0.2.1 dX7_isSound_26 (by decide) (fun c16 => ?_) (fun c16 => ?_)
        · have h := h.1 c16
          refine lv_iconst (v := 0) C0.1 C0.2.1 dX7_isSound_33 (by decide) ?_
          exact e_Z C0 Y hO hS rfl h (Nat.le_refl _) (Nat.le_refl _) dX7_isSound_34
        · have h := h.2 c16
          refine lv_iconst (v := 1) C0.1 C0.2.1 dX7_isSound_29 (by decide) ?_
          refine lv_goto (tgt := 34) C0.1 C0.2.1 dX7_isSound_30 (by decide) ?_
          exact e_Z C0 Y hO hS rfl h (Nat.le_refl _) (Nat.le_refl _) dX7_isSound_34
def wX7_isSound (S : Hp) (x0 : Nat) (Φ : Hp → Int32 → Prop) : Prop := wX7_isSound_b0 x0 Φ S
set_option maxRecDepth 100000 in
theorem mX7_isSound {l : Launch} {G : Gw} {S : Hp} {x0 : Nat} {Φ : Hp → Int32 → Prop} (h : wX7_isSound S x0 Φ) : gM l yX7_isSound cX7_isSound 1 (some .boolean) rm_X7_isSound [.ref x0] G S (PI Φ) := by
  unfold gM
  refine Met.ofW (cc := cX7_isSound) (maxL := 1) (ret := (some .boolean)) (by decide) rfl ?_
  intro p e s m args below meth c s₁ B hml hv
  obtain ⟨rfl, hw⟩ := hv
  obtain ⟨C0, Y, hO⟩ := mx_of B hml hw
  have hS : va_S (Ab G.b) s.heap s.heap [] := va_S.rf
  have hl := lv_entry ([.ref x0]) (n := 1) (Nat.le_of_ble_eq_true rfl)
  rw [lg_entry_eq]
  generalize (lg_sl ([.ref x0]) ++ List.replicate (1 - (lg_sl ([.ref x0])).length) Slot.unset).toArray = ls at hl ⊢
  have hl : lv_has ls 1 [(0, .ref x0)] := hl
  exact bX7_isSound_b0 C0 Y S _ _ _ h hO hS hl
