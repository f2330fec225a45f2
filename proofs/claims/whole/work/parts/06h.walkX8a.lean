def rm_X8_thrown : Room := { frames := 0, cells := 0, slots := 0, locals := 0 }
def wX8_thrown_b0 (x0 : Nat) (Φ : Hp → Int32 → Prop) (S : Hp) : Prop := isA S x0 8 ∧ Φ S (S.FI 549 x0)
set_option maxHeartbeats 4000000 in
set_option maxRecDepth 100000 in
theorem bX8_thrown_b0 {p : Program} {l : Launch} {e : Env} {s : State} {m : MethodId} {args : Array Value} {below : List Frame} {meth : Method} {c : Code} {G : Gw} {x0 : Nat} {Φ : Hp → Int32 → Prop} (C0 : Mx p s m c cX8_thrown 1 args yX8_thrown.cls G) (Y : My meth (some .int))  : ∀ (S : Hp) (H : Heap) (locs : List Loc) (ls : Array Slot), wX8_thrown_b0 x0 Φ S → Ok G S H → va_S (Ab G.b) s.heap H locs → lv_has ls 1 [(0, .ref x0)] → W p l e rm_X8_thrown s m args below meth c H locs 0 0 (MQ below (gQ G (PI Φ)) args s rm_X8_thrown.cells rm_X8_thrown.slots (Ab G.b)) (F0 m 0 ls []) := by
  intro S H locs ls h hO hS hl
  unfold wX8_thrown_b0 at h
  refine lv_aload_n C0.1 C0.2.1 dX8_thrown_0 rfl (lv_at hl 0 rfl) ?_
  obtain ⟨i1, h⟩ := h
  refine g8_37 C0 hO i1 tb_1365 dX8_thrown_1 ?_
  exact e_I C0 Y hO hS h (Nat.le_refl _) (Nat.le_refl _) dX8_thrown_4
def wX8_thrown (S : Hp) (x0 : Nat) (Φ : Hp → Int32 → Prop) : Prop := wX8_thrown_b0 x0 Φ S
set_option maxRecDepth 100000 in
theorem mX8_thrown {l : Launch} {G : Gw} {S : Hp} {x0 : Nat} {Φ : Hp → Int32 → Prop} (h : wX8_thrown S x0 Φ) : gM l yX8_thrown cX8_thrown 1 (some .int) rm_X8_thrown [.ref x0] G S (PI Φ) := by
  unfold gM
  refine Met.ofW (cc := cX8_thrown) (maxL := 1) (ret := (some .int)) (by decide) rfl ?_
  intro p e s m args below meth c s₁ B hml hv
  obtain ⟨rfl, hw⟩ := hv
  obtain ⟨C0, Y, hO⟩ := mx_of B hml hw
  have hS : va_S (Ab G.b) s.heap s.heap [] := va_S.rf
  have hl := lv_entry ([.ref x0]) (n := 1) (Nat.le_of_ble_eq_true rfl)
  rw [lg_entry_eq]
  generalize (lg_sl ([.ref x0]) ++ List.replicate (1 - (lg_sl ([.ref x0])).length) Slot.unset).toArray = ls at hl ⊢
  have hl : lv_has ls 1 [(0, .ref x0)] := hl
  exact bX8_thrown_b0 C0 Y S _ _ _ h hO hS hl

def rm_X8_isThrown : Room := { frames := 0, cells := 0, slots := 0, locals := 0 }
def wX8_isThrown_b10 (x0 : Nat) (x1 : Int32) (x2 : Int32) (Φ : Hp → Int32 → Prop) (S : Hp) (z0 : Nat) (z1 : Int32) : Prop := isA S z0 8 ∧ ∀ S2, S2 = S.setFI 549 z0 z1 → narrow .boolean (.int x1) = .int x1 ∧ Φ S2 x1
set_option maxHeartbeats 4000000 in
set_option maxRecDepth 100000 in
theorem bX8_isThrown_b10 {p : Program} {l : Launch} {e : Env} {s : State} {m : MethodId} {args : Array Value} {below : List Frame} {meth : Method} {c : Code} {G : Gw} {x0 : Nat} {x1 : Int32} {x2 : Int32} {Φ : Hp → Int32 → Prop} (C0 : Mx p s m c cX8_isThrown 3 args yX8_isThrown.cls G) (Y : My meth (some .boolean))  : ∀ (S : Hp) (z0 : Nat) (z1 : Int32) (H : Heap) (locs : List Loc) (ls : Array Slot), wX8_isThrown_b10 x0 x1 x2 Φ S z0 z1 → Ok G S H → va_S (Ab G.b) s.heap H locs → lv_has ls 3 [(0, .ref x0), (1, .int x1), (2, .int x2)] → W p l e rm_X8_isThrown s m args below meth c H locs 0 0 (MQ below (gQ G (PI Φ)) args s rm_X8_isThrown.cells rm_X8_isThrown.slots (Ab G.b)) (F0 m 10 ls [.int z1, .ref z0]) := by
  intro S z0 z1 H locs ls h hO hS hl
  unfold wX8_isThrown_b10 at h
  obtain ⟨i1, h⟩ := h
  refine p8_37 C0 hO hS i1 tb_1365 dX8_isThrown_10 (fun H locs hO hS => ?_)
  have h := h _ rfl
  refine lv_iload_n C0.1 C0.2.1 dX8_isThrown_13 rfl (lv_at hl 1 rfl) ?_
  exact e_Z C0 Y hO hS h.1 h.2 (Nat.le_refl _) (Nat.le_refl _) dX8_isThrown_14
def wX8_isThrown_b0 (x0 : Nat) (x1 : Int32) (x2 : Int32) (Φ : Hp → Int32 → Prop) (S : Hp) : Prop := ((x1 = 0 → wX8_isThrown_b10 x0 x1 x2 Φ S x0 0) ∧ (¬ (x1 = 0) → wX8_isThrown_b10 x0 x1 x2 Φ S x0 x2))
set_option maxHeartbeats 4000000 in
set_option maxRecDepth 100000 in
theorem bX8_isThrown_b0 {p : Program} {l : Launch} {e : Env} {s : State} {m : MethodId} {args : Array Value} {below : List Frame} {meth : Method} {c : Code} {G : Gw} {x0 : Nat} {x1 : Int32} {x2 : Int32} {Φ : Hp → Int32 → Prop} (C0 : Mx p s m c cX8_isThrown 3 args yX8_isThrown.cls G) (Y : My meth (some .boolean))  : ∀ (S : Hp) (H : Heap) (locs : List Loc) (ls : Array Slot), wX8_isThrown_b0 x0 x1 x2 Φ S → Ok G S H → va_S (Ab G.b) s.heap H locs → lv_has ls 3 [(0, .ref x0), (1, .int x1), (2, .int x2)] → W p l e rm_X8_isThrown s m args below meth c H locs 0 0 (MQ below (gQ G (PI Φ)) args s rm_X8_isThrown.cells rm_X8_isThrown.slots (Ab G.b)) (F0 m 0 ls []) := by
  intro S H locs ls h hO hS hl
  unfold wX8_isThrown_b0 at h
  refine lv_aload_n C0.1 C0.2.1 dX8_isThrown_0 rfl (lv_at hl 0 rfl) ?_
  refine lv_iload_n C0.1 C0.2.1 dX8_isThrown_1 rfl (lv_at hl 1 rfl) ?_
  refine lv_if_eq (tgt := 9) C0.1 C0.2.1 dX8_isThrown_2 (by decide) (fun c1 => ?_) (fun c1 => ?_)
  · have h := h.1 c1
    refine lv_iconst (v := 0) C0.1 C0.2.1 dX8_isThrown_9 (by decide) ?_
    exact bX8_isThrown_b10 C0 Y _ _ _ _ _ _ h hO hS (lv_sub hl [0, 1, 2] rfl)
  · have h := h.2 c1
    refine lv_iload_n C0.1 C0.2.1 dX8_isThrown_5 rfl (lv_at hl 2 rfl) ?_
    refine lv_goto (tgt := 10) C0.1 C0.2.1 dX8_isThrown_6 (by decide) ?_
    exact bX8_isThrown_b10 C0 Y _ _ _ _ _ _ h hO hS (lv_sub hl [0, 1, 2] rfl)
def wX8_isThrown (S : Hp) (x0 : Nat) (x1 : Int32) (x2 : Int32) (Φ : Hp → Int32 → Prop) : Prop := wX8_isThrown_b0 x0 x1 x2 Φ S
set_option maxRecDepth 100000 in
theorem mX8_isThrown {l : Launch} {G : Gw} {S : Hp} {x0 : Nat} {x1 : Int32} {x2 : Int32} {Φ : Hp → Int32 → Prop} (h : wX8_isThrown S x0 x1 x2 Φ) : gM l yX8_isThrown cX8_isThrown 3 (some .boolean) rm_X8_isThrown [.ref x0, .int x1, .int x2] G S (PI Φ) := by
  unfold gM
  refine Met.ofW (cc := cX8_isThrown) (maxL := 3) (ret := (some .boolean)) (by decide) rfl ?_
  intro p e s m args below meth c s₁ B hml hv
  obtain ⟨rfl, hw⟩ := hv
  obtain ⟨C0, Y, hO⟩ := mx_of B hml hw
  have hS : va_S (Ab G.b) s.heap s.heap [] := va_S.rf
  have hl := lv_entry ([.ref x0, .int x1, .int x2]) (n := 3) (Nat.le_of_ble_eq_true rfl)
  rw [lg_entry_eq]
  generalize (lg_sl ([.ref x0, .int x1, .int x2]) ++ List.replicate (3 - (lg_sl ([.ref x0, .int x1, .int x2])).length) Slot.unset).toArray = ls at hl ⊢
  have hl : lv_has ls 3 [(0, .ref x0), (1, .int x1), (2, .int x2)] := hl
  exact bX8_isThrown_b0 C0 Y S _ _ _ h hO hS hl

def rm_X8_isIn : Room := { frames := 0, cells := 0, slots := 0, locals := 0 }
def wX8_isIn_b0 (x0 : Int32) (x1 : Int32) (x2 : Int32) (Φ : Hp → Int32 → Prop) (S : Hp) : Prop := ((x0 < x1 → Φ S 0) ∧ (¬ (x0 < x1) → ((x2 < x0 → Φ S 0) ∧ (¬ (x2 < x0) → Φ S 1))))
set_option maxHeartbeats 4000000 in
set_option maxRecDepth 100000 in
theorem bX8_isIn_b0 {p : Program} {l : Launch} {e : Env} {s : State} {m : MethodId} {args : Array Value} {below : List Frame} {meth : Method} {c : Code} {G : Gw} {x0 : Int32} {x1 : Int32} {x2 : Int32} {Φ : Hp → Int32 → Prop} (C0 : Mx p s m c cX8_isIn 3 args yX8_isIn.cls G) (Y : My meth (some .boolean))  : ∀ (S : Hp) (H : Heap) (locs : List Loc) (ls : Array Slot), wX8_isIn_b0 x0 x1 x2 Φ S → Ok G S H → va_S (Ab G.b) s.heap H locs → lv_has ls 3 [(0, .int x0), (1, .int x1), (2, .int x2)] → W p l e rm_X8_isIn s m args below meth c H locs 0 0 (MQ below (gQ G (PI Φ)) args s rm_X8_isIn.cells rm_X8_isIn.slots (Ab G.b)) (F0 m 0 ls []) := by
  intro S H locs ls h hO hS hl
  unfold wX8_isIn_b0 at h
  refine lv_iload_n C0.1 C0.2.1 dX8_isIn_0 rfl (lv_at hl 0 rfl) ?_
  refine lv_iload_n C0.1 C0.2.1 dX8_isIn_1 rfl (lv_at hl 1 rfl) ?_
  refine lv_icmp_lt (tgt := 14) C0.1 C0.2.1 dX8_isIn_2 (by decide) (fun c1 => ?_) (fun c1 => ?_)
  · have h := h.1 c1
    refine lv_iconst (v := 0) C0.1 C0.2.1 dX8_isIn_14 (by decide) ?_
    exact e_Z C0 Y hO hS rfl h (Nat.le_refl _) (Nat.le_refl _) dX8_isIn_15
  · have h := h.2 c1
    refine lv_iload_n C0.1 C0.2.1 dX8_isIn_5 rfl (lv_at hl 0 rfl) ?_
    refine lv_iload_n C0.1 C0.2.1 dX8_isIn_6 rfl (lv_at hl 2 rfl) ?_
    refine lv_icmp_gt (tgt := 14) C0.1 C0.2.1 dX8_isIn_7 (by decide) (fun c2 => ?_) (fun c2 => ?_)
    · have h := h.1 c2
      refine lv_iconst (v := 0) C0.1 C0.2.1 dX8_isIn_14 (by decide) ?_
      exact e_Z C0 Y hO hS rfl h (Nat.le_refl _) (Nat.le_refl _) dX8_isIn_15
    · have h := h.2 c2
      refine lv_iconst (v := 1) C0.1 C0.2.1 dX8_isIn_10 (by decide) ?_
      refine lv_goto (tgt := 15) C0.1 C0.2.1 dX8_isIn_11 (by decide) ?_
      exact e_Z C0 Y hO hS rfl h (Nat.le_refl _) (Nat.le_refl _) dX8_isIn_15
def wX8_isIn (S : Hp) (x0 : Int32) (x1 : Int32) (x2 : Int32) (Φ : Hp → Int32 → Prop) : Prop := wX8_isIn_b0 x0 x1 x2 Φ S
set_option maxRecDepth 100000 in
theorem mX8_isIn {l : Launch} {G : Gw} {S : Hp} {x0 : Int32} {x1 : Int32} {x2 : Int32} {Φ : Hp → Int32 → Prop} (h : wX8_isIn S x0 x1 x2 Φ) : gM l yX8_isIn cX8_isIn 3 (some .boolean) rm_X8_isIn [.int x0, .int x1, .int x2] G S (PI Φ) := by
  unfold gM
  refine Met.ofW (cc := cX8_isIn) (maxL := 3) (ret := (some .boolean)) (by decide) rfl ?_
  intro p e s m args below meth c s₁ B hml hv
  obtain ⟨rfl, hw⟩ := hv
  obtain ⟨C0, Y, hO⟩ := mx_of B hml hw
  have hS : va_S (Ab G.b) s.heap s.heap [] := va_S.rf
  have hl := lv_entry ([.int x0, .int x1, .int x2]) (n := 3) (Nat.le_of_ble_eq_true rfl)
  rw [lg_entry_eq]
  generalize (lg_sl ([.int x0, .int x1, .int x2]) ++ List.replicate (3 - (lg_sl ([.int x0, .int x1, .int x2])).length) Slot.unset).toArray = ls at hl ⊢
  have hl : lv_has ls 3 [(0, .int x0), (1, .int x1), (2, .int x2)] := hl
  exact bX8_isIn_b0 C0 Y S _ _ _ h hO hS hl

def rm_X8_isNoShaft : Room := { frames := 1, cells := 0, slots := 0, locals := 22 }
def wX8_isNoShaft_b0 (x0 : Nat) (x1 : Int32) (Φ : Hp → Int32 → Prop) (S : Hp) : Prop := isA S x0 8 ∧ wX8_isIn S x1 0 ((S.FI 543 x0) - 1) (fun S2 r3 => ((¬ r3 = 0 → Φ S2 0) ∧ (r3 = 0 → Φ S2 1)))
set_option maxHeartbeats 4000000 in
set_option maxRecDepth 100000 in
theorem bX8_isNoShaft_b0 {p : Program} {l : Launch} {e : Env} {s : State} {m : MethodId} {args : Array Value} {below : List Frame} {meth : Method} {c : Code} {G : Gw} {x0 : Nat} {x1 : Int32} {Φ : Hp → Int32 → Prop} (C0 : Mx p s m c cX8_isNoShaft 2 args yX8_isNoShaft.cls G) (Y : My meth (some .boolean))  : ∀ (S : Hp) (H : Heap) (locs : List Loc) (ls : Array Slot), wX8_isNoShaft_b0 x0 x1 Φ S → Ok G S H → va_S (Ab G.b) s.heap H locs → lv_has ls 2 [(0, .ref x0), (1, .int x1)] → W p l e rm_X8_isNoShaft s m args below meth c H locs 0 0 (MQ below (gQ G (PI Φ)) args s rm_X8_isNoShaft.cells rm_X8_isNoShaft.slots (Ab G.b)) (F0 m 0 ls []) := by
  intro S H locs ls h hO hS hl
  unfold wX8_isNoShaft_b0 at h
  refine lv_iload_n C0.1 C0.2.1 dX8_isNoShaft_0 rfl (lv_at hl 1 rfl) ?_
  refine lv_iconst (v := 0) C0.1 C0.2.1 dX8_isNoShaft_1 (by decide) ?_
  refine lv_aload_n C0.1 C0.2.1 dX8_isNoShaft_2 rfl (lv_at hl 0 rfl) ?_
  obtain ⟨i1, h⟩ := h
  refine g8_31 C0 hO i1 tb_1359 dX8_isNoShaft_3 ?_
  refine lv_iconst (v := 1) C0.1 C0.2.1 dX8_isNoShaft_6 (by decide) ?_
  refine lv_isub C0.1 C0.2.1 dX8_isNoShaft_7 ?_
  refine c_S C0 hO hS (mX8_isIn h) tb_1463 tb_1464 tb_81 tb_1465 hd_X8_isIn rfl ⟨⟨by decide, by decide⟩, by decide, by decide⟩ hl.1 rfl (Nat.le_of_ble_eq_true rfl) dX8_isNoShaft_8 (kI (fun r3 S2 H locs h hO hS => ?_))
  refine lv_if_ne (tgt := 18) C0.1 C0.2.1 dX8_isNoShaft_11 (by decide) (fun c4 => ?_) (fun c4 => ?_)
  · have h := h.1 c4
    refine lv_iconst (v := 0) C0.1 C0.2.1 dX8_isNoShaft_18 (by decide) ?_
    exact e_Z C0 Y hO hS rfl h (Nat.le_refl _) (Nat.le_refl _) dX8_isNoShaft_19
  · have h := h.2 c4
    refine lv_iconst (v := 1) C0.1 C0.2.1 dX8_isNoShaft_14 (by decide) ?_
    refine lv_goto (tgt := 19) C0.1 C0.2.1 dX8_isNoShaft_15 (by decide) ?_
    exact e_Z C0 Y hO hS rfl h (Nat.le_refl _) (Nat.le_refl _) dX8_isNoShaft_19
def wX8_isNoShaft (S : Hp) (x0 : Nat) (x1 : Int32) (Φ : Hp → Int32 → Prop) : Prop := wX8_isNoShaft_b0 x0 x1 Φ S
set_option maxRecDepth 100000 in
theorem mX8_isNoShaft {l : Launch} {G : Gw} {S : Hp} {x0 : Nat} {x1 : Int32} {Φ : Hp → Int32 → Prop} (h : wX8_isNoShaft S x0 x1 Φ) : gM l yX8_isNoShaft cX8_isNoShaft 2 (some .boolean) rm_X8_isNoShaft [.ref x0, .int x1] G S (PI Φ) := by
  unfold gM
  refine Met.ofW (cc := cX8_isNoShaft) (maxL := 2) (ret := (some .boolean)) (by decide) rfl ?_
  intro p e s m args below meth c s₁ B hml hv
  obtain ⟨rfl, hw⟩ := hv
  obtain ⟨C0, Y, hO⟩ := mx_of B hml hw
  have hS : va_S (Ab G.b) s.heap s.heap [] := va_S.rf
  have hl := lv_entry ([.ref x0, .int x1]) (n := 2) (Nat.le_of_ble_eq_true rfl)
  rw [lg_entry_eq]
  generalize (lg_sl ([.ref x0, .int x1]) ++ List.replicate (2 - (lg_sl ([.ref x0, .int x1])).length) Slot.unset).toArray = ls at hl ⊢
  have hl : lv_has ls 2 [(0, .ref x0), (1, .int x1)] := hl
  exact bX8_isNoShaft_b0 C0 Y S _ _ _ h hO hS hl

def rm_X8_isNoLink : Room := { frames := 1, cells := 0, slots := 0, locals := 22 }
def wX8_isNoLink_b0 (x0 : Nat) (x1 : Int32) (Φ : Hp → Int32 → Prop) (S : Hp) : Prop := isA S x0 8 ∧ wX8_isIn S x1 0 ((S.FI 544 x0) - 1) (fun S2 r3 => ((¬ r3 = 0 → Φ S2 0) ∧ (r3 = 0 → Φ S2 1)))
set_option maxHeartbeats 4000000 in
set_option maxRecDepth 100000 in
theorem bX8_isNoLink_b0 {p : Program} {l : Launch} {e : Env} {s : State} {m : MethodId} {args : Array Value} {below : List Frame} {meth : Method} {c : Code} {G : Gw} {x0 : Nat} {x1 : Int32} {Φ : Hp → Int32 → Prop} (C0 : Mx p s m c cX8_isNoLink 2 args yX8_isNoLink.cls G) (Y : My meth (some .boolean))  : ∀ (S : Hp) (H : Heap) (locs : List Loc) (ls : Array Slot), wX8_isNoLink_b0 x0 x1 Φ S → Ok G S H → va_S (Ab G.b) s.heap H locs → lv_has ls 2 [(0, .ref x0), (1, .int x1)] → W p l e rm_X8_isNoLink s m args below meth c H locs 0 0 (MQ below (gQ G (PI Φ)) args s rm_X8_isNoLink.cells rm_X8_isNoLink.slots (Ab G.b)) (F0 m 0 ls []) := by
  intro S H locs ls h hO hS hl
  unfold wX8_isNoLink_b0 at h
  refine lv_iload_n C0.1 C0.2.1 dX8_isNoLink_0 rfl (lv_at hl 1 rfl) ?_
  refine lv_iconst (v := 0) C0.1 C0.2.1 dX8_isNoLink_1 (by decide) ?_
  refine lv_aload_n C0.1 C0.2.1 dX8_isNoLink_2 rfl (lv_at hl 0 rfl) ?_
  obtain ⟨i1, h⟩ := h
  refine g8_32 C0 hO i1 tb_1360 dX8_isNoLink_3 ?_
  refine lv_iconst (v := 1) C0.1 C0.2.1 dX8_isNoLink_6 (by decide) ?_
  refine lv_isub C0.1 C0.2.1 dX8_isNoLink_7 ?_
  refine c_S C0 hO hS (mX8_isIn h) tb_1463 tb_1464 tb_81 tb_1465 hd_X8_isIn rfl ⟨⟨by decide, by decide⟩, by decide, by decide⟩ hl.1 rfl (Nat.le_of_ble_eq_true rfl) dX8_isNoLink_8 (kI (fun r3 S2 H locs h hO hS => ?_))
  refine lv_if_ne (tgt := 18) C0.1 C0.2.1 dX8_isNoLink_11 (by decide) (fun c4 => ?_) (fun c4 => ?_)
  · have h := h.1 c4
    refine lv_iconst (v := 0) C0.1 C0.2.1 dX8_isNoLink_18 (by decide) ?_
    exact e_Z C0 Y hO hS rfl h (Nat.le_refl _) (Nat.le_refl _) dX8_isNoLink_19
  · have h := h.2 c4
    refine lv_iconst (v := 1) C0.1 C0.2.1 dX8_isNoLink_14 (by decide) ?_
    refine lv_goto (tgt := 19) C0.1 C0.2.1 dX8_isNoLink_15 (by decide) ?_
    exact e_Z C0 Y hO hS rfl h (Nat.le_refl _) (Nat.le_refl _) dX8_isNoLink_19
def wX8_isNoLink (S : Hp) (x0 : Nat) (x1 : Int32) (Φ : Hp → Int32 → Prop) : Prop := wX8_isNoLink_b0 x0 x1 Φ S
set_option maxRecDepth 100000 in
theorem mX8_isNoLink {l : Launch} {G : Gw} {S : Hp} {x0 : Nat} {x1 : Int32} {Φ : Hp → Int32 → Prop} (h : wX8_isNoLink S x0 x1 Φ) : gM l yX8_isNoLink cX8_isNoLink 2 (some .boolean) rm_X8_isNoLink [.ref x0, .int x1] G S (PI Φ) := by
  unfold gM
  refine Met.ofW (cc := cX8_isNoLink) (maxL := 2) (ret := (some .boolean)) (by decide) rfl ?_
  intro p e s m args below meth c s₁ B hml hv
  obtain ⟨rfl, hw⟩ := hv
  obtain ⟨C0, Y, hO⟩ := mx_of B hml hw
  have hS : va_S (Ab G.b) s.heap s.heap [] := va_S.rf
  have hl := lv_entry ([.ref x0, .int x1]) (n := 2) (Nat.le_of_ble_eq_true rfl)
  rw [lg_entry_eq]
  generalize (lg_sl ([.ref x0, .int x1]) ++ List.replicate (2 - (lg_sl ([.ref x0, .int x1])).length) Slot.unset).toArray = ls at hl ⊢
  have hl : lv_has ls 2 [(0, .ref x0), (1, .int x1)] := hl
  exact bX8_isNoLink_b0 C0 Y S _ _ _ h hO hS hl

def rm_X8_common : Room := { frames := 1, cells := 0, slots := 0, locals := 15 }
def wX8_common_b12 (x0 : Int64) (x2 : Int64) (Φ : Hp → Int64 → Prop) (k12 : Hp → Int64 → Int64 → Prop) (S : Hp) (v4 : Int64) (v6 : Int64) : Prop := (((lg_cmp v6 0) = 0 → Φ S v4) ∧ (¬ ((lg_cmp v6 0) = 0) → ¬ v6 = 0 ∧ k12 S v6 (v4 - v4 / v6 * v6)))
set_option maxHeartbeats 4000000 in
set_option maxRecDepth 100000 in
theorem bX8_common_b12 {p : Program} {l : Launch} {e : Env} {s : State} {m : MethodId} {args : Array Value} {below : List Frame} {meth : Method} {c : Code} {G : Gw} {x0 : Int64} {x2 : Int64} {Φ : Hp → Int64 → Prop} (C0 : Mx p s m c cX8_common 10 args yX8_common.cls G) (Y : My meth (some .long)) {k12 : Hp → Int64 → Int64 → Prop} (hk12 : ∀ (S : Hp) (v4 : Int64) (v6 : Int64) (H : Heap) (locs : List Loc) (ls : Array Slot), k12 S v4 v6 → Ok G S H → va_S (Ab G.b) s.heap H locs → lv_has ls 10 [(0, .long x0), (2, .long x2), (4, .long v4), (6, .long v6)] → W p l e rm_X8_common s m args below meth c H locs 0 0 (MQ below (gQ G (PJ Φ)) args s rm_X8_common.cells rm_X8_common.slots (Ab G.b)) (F0 m 12 ls [])) : ∀ (S : Hp) (v4 : Int64) (v6 : Int64) (H : Heap) (locs : List Loc) (ls : Array Slot), wX8_common_b12 x0 x2 Φ k12 S v4 v6 → Ok G S H → va_S (Ab G.b) s.heap H locs → lv_has ls 10 [(0, .long x0), (2, .long x2), (4, .long v4), (6, .long v6)] → W p l e rm_X8_common s m args below meth c H locs 0 0 (MQ below (gQ G (PJ Φ)) args s rm_X8_common.cells rm_X8_common.slots (Ab G.b)) (F0 m 12 ls []) := by
  intro S v4 v6 H locs ls h hO hS hl
  unfold wX8_common_b12 at h
  refine lv_lload C0.1 C0.2.1 dX8_common_12 (lv_at hl 3 rfl) ?_
  refine lv_lconst (v := 0) C0.1 C0.2.1 dX8_common_14 (by decide) ?_
  refine W.lcmp C0.1 C0.2.1 dX8_common_15 ?_
  refine lv_if_eq (tgt := 37) C0.1 C0.2.1 dX8_common_16 (by decide) (fun c1 => ?_) (fun c1 => ?_)
  · have h := h.1 c1
    refine lv_lload C0.1 C0.2.1 dX8_common_37 (lv_at hl 2 rfl) ?_
    exact e_J C0 Y hO hS h (Nat.le_refl _) (Nat.le_refl _) dX8_common_39
  · have h := h.2 c1
    refine lv_lload C0.1 C0.2.1 dX8_common_19 (lv_at hl 2 rfl) ?_
    refine lv_lload C0.1 C0.2.1 dX8_common_21 (lv_at hl 3 rfl) ?_
    obtain ⟨e2, h⟩ := h
    refine lv_lrem C0.1 C0.2.1 dX8_common_23 e2 ?_
    refine lv_lstore C0.1 C0.2.1 dX8_common_24 hl (by decide) rfl (fun ls hl => ?_)
    refine lv_lload C0.1 C0.2.1 dX8_common_26 (lv_at hl 4 rfl) ?_
    refine lv_lstore C0.1 C0.2.1 dX8_common_28 hl (by decide) rfl (fun ls hl => ?_)
    refine lv_lload C0.1 C0.2.1 dX8_common_30 (lv_at hl 1 rfl) ?_
    refine lv_lstore C0.1 C0.2.1 dX8_common_32 hl (by decide) rfl (fun ls hl => ?_)
    refine lv_goto (tgt := 12) C0.1 C0.2.1 dX8_common_34 (by decide) ?_
    exact hk12 _ _ _ _ _ _ h hO hS (lv_sub hl [3, 4, 1, 0] rfl)
set_option maxHeartbeats 4000000 in
set_option maxRecDepth 100000 in
theorem lX8_common_b12 {p : Program} {l : Launch} {e : Env} {s : State} {m : MethodId} {args : Array Value} {below : List Frame} {meth : Method} {c : Code} {G : Gw} {x0 : Int64} {x2 : Int64} {Φ : Hp → Int64 → Prop} (C0 : Mx p s m c cX8_common 10 args yX8_common.cls G) (Y : My meth (some .long))  : ∀ n9 : Nat, ∀ (S : Hp) (v4 : Int64) (v6 : Int64) (H : Heap) (locs : List Loc) (ls : Array Slot), it3 (wX8_common_b12 x0 x2 Φ) n9 S v4 v6 → Ok G S H → va_S (Ab G.b) s.heap H locs → lv_has ls 10 [(0, .long x0), (2, .long x2), (4, .long v4), (6, .long v6)] → W p l e rm_X8_common s m args below meth c H locs 0 0 (MQ below (gQ G (PJ Φ)) args s rm_X8_common.cells rm_X8_common.slots (Ab G.b)) (F0 m 12 ls []) := by
  intro n9
  induction n9 with
  | zero => intro S v4 v6 H locs ls h; exact (h : False).elim
  | succ n9 ih => intro S v4 v6 H locs ls h hO hS hl; exact bX8_common_b12 C0 Y ih S v4 v6 H locs ls h hO hS hl
def wX8_common_b0 (x0 : Int64) (x2 : Int64) (Φ : Hp → Int64 → Prop) (S : Hp) : Prop := ∃ n, it3 (wX8_common_b12 x0 x2 Φ) n S (if 0 < x0 then x0 else -x0) (if 0 < x2 then x2 else -x2)
set_option maxHeartbeats 4000000 in
set_option maxRecDepth 100000 in
theorem bX8_common_b0 {p : Program} {l : Launch} {e : Env} {s : State} {m : MethodId} {args : Array Value} {below : List Frame} {meth : Method} {c : Code} {G : Gw} {x0 : Int64} {x2 : Int64} {Φ : Hp → Int64 → Prop} (C0 : Mx p s m c cX8_common 10 args yX8_common.cls G) (Y : My meth (some .long))  : ∀ (S : Hp) (H : Heap) (locs : List Loc) (ls : Array Slot), wX8_common_b0 x0 x2 Φ S → Ok G S H → va_S (Ab G.b) s.heap H locs → lv_has ls 10 [(0, .long x0), (2, .long x2)] → W p l e rm_X8_common s m args below meth c H locs 0 0 (MQ below (gQ G (PJ Φ)) args s rm_X8_common.cells rm_X8_common.slots (Ab G.b)) (F0 m 0 ls []) := by
  intro S H locs ls h hO hS hl
  unfold wX8_common_b0 at h
  refine lv_lload_n C0.1 C0.2.1 dX8_common_0 rfl (lv_at hl 0 rfl) ?_
  refine va_mabs_long C0.1 C0.2.1 (C0.2.2.1.trans hl.1.symm) C0.2.2.2.1 (C0.2.2.2.2.1 _ tb_1539) (C0.2.2.2.2.1 _ tb_817) (C0.2.2.2.2.1 _ tb_94) (C0.2.2.2.2.1 _ tb_818) (Nat.le_of_ble_eq_true rfl) (Nat.le_of_ble_eq_true rfl) (by decide) (by decide) dX8_common_1 ?_
  refine lv_lstore C0.1 C0.2.1 dX8_common_4 hl (by decide) rfl (fun ls hl => ?_)
  refine lv_lload_n C0.1 C0.2.1 dX8_common_6 rfl (lv_at hl 2 rfl) ?_
  refine va_mabs_long C0.1 C0.2.1 (C0.2.2.1.trans hl.1.symm) C0.2.2.2.1 (C0.2.2.2.2.1 _ tb_1539) (C0.2.2.2.2.1 _ tb_817) (C0.2.2.2.2.1 _ tb_94) (C0.2.2.2.2.1 _ tb_818) (Nat.le_of_ble_eq_true rfl) (Nat.le_of_ble_eq_true rfl) (by decide) (by decide) dX8_common_7 ?_
  refine lv_lstore C0.1 C0.2.1 dX8_common_10 hl (by decide) rfl (fun ls hl => ?_)
  obtain ⟨n9, h⟩ := h
  exact lX8_common_b12 C0 Y n9 _ _ _ _ _ _ h hO hS (lv_sub hl [2, 3, 1, 0] rfl)
def wX8_common (S : Hp) (x0 : Int64) (x2 : Int64) (Φ : Hp → Int64 → Prop) : Prop := wX8_common_b0 x0 x2 Φ S
set_option maxRecDepth 100000 in
theorem mX8_common {l : Launch} {G : Gw} {S : Hp} {x0 : Int64} {x2 : Int64} {Φ : Hp → Int64 → Prop} (h : wX8_common S x0 x2 Φ) : gM l yX8_common cX8_common 10 (some .long) rm_X8_common [.long x0, .long x2] G S (PJ Φ) := by
  unfold gM
  refine Met.ofW (cc := cX8_common) (maxL := 10) (ret := (some .long)) (by decide) rfl ?_
  intro p e s m args below meth c s₁ B hml hv
  obtain ⟨rfl, hw⟩ := hv
  obtain ⟨C0, Y, hO⟩ := mx_of B hml hw
  have hS : va_S (Ab G.b) s.heap s.heap [] := va_S.rf
  have hl := lv_entry ([.long x0, .long x2]) (n := 10) (Nat.le_of_ble_eq_true rfl)
  rw [lg_entry_eq]
  generalize (lg_sl ([.long x0, .long x2]) ++ List.replicate (10 - (lg_sl ([.long x0, .long x2])).length) Slot.unset).toArray = ls at hl ⊢
  have hl : lv_has ls 10 [(0, .long x0), (2, .long x2)] := hl
  exact bX8_common_b0 C0 Y S _ _ _ h hO hS hl

def rm_X8_result : Room := { frames := 2, cells := 0, slots := 0, locals := 44 }
def wX8_result_b0 (x0 : Nat) (x1 : Int64) (x3 : Int64) (Φ : Hp → Prop) (S : Hp) : Prop := wX8_common S x1 x3 (fun S1 r2 => ¬ r2 = 0 ∧ isA S1 x0 8 ∧ ∀ S5, S5 = S1.setFJ 547 x0 (x1 / r2) → ¬ r2 = 0 ∧ ∀ S7, S7 = S5.setFJ 548 x0 (x3 / r2) → ((0 ≤ (lg_cmp (S7.FJ 548 x0) 0) → Φ S7) ∧ (¬ (0 ≤ (lg_cmp (S7.FJ 548 x0) 0)) → ∀ S9, S9 = S7.setFJ 547 x0 (-(S7.FJ 547 x0)) → ∀ S10, S10 = S9.setFJ 548 x0 (-(S9.FJ 548 x0)) → Φ S10)))
set_option maxHeartbeats 4000000 in
set_option maxRecDepth 100000 in
theorem bX8_result_b0 {p : Program} {l : Launch} {e : Env} {s : State} {m : MethodId} {args : Array Value} {below : List Frame} {meth : Method} {c : Code} {G : Gw} {x0 : Nat} {x1 : Int64} {x3 : Int64} {Φ : Hp → Prop} (C0 : Mx p s m c cX8_result 7 args yX8_result.cls G) (Y : My meth none)  : ∀ (S : Hp) (H : Heap) (locs : List Loc) (ls : Array Slot), wX8_result_b0 x0 x1 x3 Φ S → Ok G S H → va_S (Ab G.b) s.heap H locs → lv_has ls 7 [(0, .ref x0), (1, .long x1), (3, .long x3)] → W p l e rm_X8_result s m args below meth c H locs 0 0 (MQ below (gQ G (PV Φ)) args s rm_X8_result.cells rm_X8_result.slots (Ab G.b)) (F0 m 0 ls []) := by
  intro S H locs ls h hO hS hl
  unfold wX8_result_b0 at h
  refine lv_lload_n C0.1 C0.2.1 dX8_result_0 rfl (lv_at hl 1 rfl) ?_
  refine lv_lload_n C0.1 C0.2.1 dX8_result_1 rfl (lv_at hl 2 rfl) ?_
  refine c_S C0 hO hS (mX8_common h) tb_1536 tb_1537 tb_81 tb_1538 hd_X8_common rfl ⟨⟨by decide, by decide⟩, by decide, by decide⟩ hl.1 rfl (Nat.le_of_ble_eq_true rfl) dX8_result_2 (kJ (fun r2 S1 H locs h hO hS => ?_))
  refine lv_lstore C0.1 C0.2.1 dX8_result_5 hl (by decide) rfl (fun ls hl => ?_)
  refine lv_aload_n C0.1 C0.2.1 dX8_result_7 rfl (lv_at hl 1 rfl) ?_
  refine lv_lload_n C0.1 C0.2.1 dX8_result_8 rfl (lv_at hl 2 rfl) ?_
  refine lv_lload C0.1 C0.2.1 dX8_result_9 (lv_at hl 0 rfl) ?_
  obtain ⟨e3, h⟩ := h
  refine lv_ldiv C0.1 C0.2.1 dX8_result_11 e3 ?_
  obtain ⟨i4, h⟩ := h
  refine p8_35 C0 hO hS i4 tb_1363 dX8_result_12 (fun H locs hO hS => ?_)
  have h := h _ rfl
  refine lv_aload_n C0.1 C0.2.1 dX8_result_15 rfl (lv_at hl 1 rfl) ?_
  refine lv_lload_n C0.1 C0.2.1 dX8_result_16 rfl (lv_at hl 3 rfl) ?_
  refine lv_lload C0.1 C0.2.1 dX8_result_17 (lv_at hl 0 rfl) ?_
  obtain ⟨e6, h⟩ := h
  refine lv_ldiv C0.1 C0.2.1 dX8_result_19 e6 ?_
  refine p8_36 C0 hO hS (sA_FJ i4) tb_1364 dX8_result_20 (fun H locs hO hS => ?_)
  have h := h _ rfl
  refine lv_aload_n C0.1 C0.2.1 dX8_result_23 rfl (lv_at hl 1 rfl) ?_
  refine g8_36 C0 hO (sA_FJ (sA_FJ i4)) tb_1364 dX8_result_24 ?_
  refine lv_lconst (v := 0) C0.1 C0.2.1 dX8_result_27 (by decide) ?_
  refine W.lcmp C0.1 C0.2.1 dX8_result_28 ?_
  refine lv_if_ge (tgt := 50) C0.1 C0.2.1 dX8_result_29 (by decide) (fun c8 => ?_) (fun c8 => ?_)
  · have h := h.1 c8
    exact e_V C0 Y hO hS h (Nat.le_refl _) (Nat.le_refl _) dX8_result_50
  · have h := h.2 c8
    refine lv_aload_n C0.1 C0.2.1 dX8_result_32 rfl (lv_at hl 1 rfl) ?_
    refine lv_aload_n C0.1 C0.2.1 dX8_result_33 rfl (lv_at hl 1 rfl) ?_
    refine g8_35 C0 hO (sA_FJ (sA_FJ i4)) tb_1363 dX8_result_34 ?_
    refine lv_lneg C0.1 C0.2.1 dX8_result_37 ?_
    refine p8_35 C0 hO hS (sA_FJ (sA_FJ i4)) tb_1363 dX8_result_38 (fun H locs hO hS => ?_)
    have h := h _ rfl
    refine lv_aload_n C0.1 C0.2.1 dX8_result_41 rfl (lv_at hl 1 rfl) ?_
    refine lv_aload_n C0.1 C0.2.1 dX8_result_42 rfl (lv_at hl 1 rfl) ?_
    refine g8_36 C0 hO (sA_FJ (sA_FJ (sA_FJ i4))) tb_1364 dX8_result_43 ?_
    refine lv_lneg C0.1 C0.2.1 dX8_result_46 ?_
    refine p8_36 C0 hO hS (sA_FJ (sA_FJ (sA_FJ i4))) tb_1364 dX8_result_47 (fun H locs hO hS => ?_)
    have h := h _ rfl
    exact e_V C0 Y hO hS h (Nat.le_refl _) (Nat.le_refl _) dX8_result_50
def wX8_result (S : Hp) (x0 : Nat) (x1 : Int64) (x3 : Int64) (Φ : Hp → Prop) : Prop := wX8_result_b0 x0 x1 x3 Φ S
set_option maxRecDepth 100000 in
theorem mX8_result {l : Launch} {G : Gw} {S : Hp} {x0 : Nat} {x1 : Int64} {x3 : Int64} {Φ : Hp → Prop} (h : wX8_result S x0 x1 x3 Φ) : gM l yX8_result cX8_result 7 none rm_X8_result [.ref x0, .long x1, .long x3] G S (PV Φ) := by
  unfold gM
  refine Met.ofW (cc := cX8_result) (maxL := 7) (ret := none) (by decide) rfl ?_
  intro p e s m args below meth c s₁ B hml hv
  obtain ⟨rfl, hw⟩ := hv
  obtain ⟨C0, Y, hO⟩ := mx_of B hml hw
  have hS : va_S (Ab G.b) s.heap s.heap [] := va_S.rf
  have hl := lv_entry ([.ref x0, .long x1, .long x3]) (n := 7) (Nat.le_of_ble_eq_true rfl)
  rw [lg_entry_eq]
  generalize (lg_sl ([.ref x0, .long x1, .long x3]) ++ List.replicate (7 - (lg_sl ([.ref x0, .long x1, .long x3])).length) Slot.unset).toArray = ls at hl ⊢
  have hl : lv_has ls 7 [(0, .ref x0), (1, .long x1), (3, .long x3)] := hl
  exact bX8_result_b0 C0 Y S _ _ _ h hO hS hl

def rm_X8_sum : Room := { frames := 3, cells := 0, slots := 0, locals := 70 }
def wX8_sum_b0 (x0 : Nat) (x1 : Int64) (x3 : Int64) (x5 : Int64) (x7 : Int64) (Φ : Hp → Prop) (S : Hp) : Prop := wX8_common S x3 x7 (fun S1 r2 => ¬ r2 = 0 ∧ ¬ r2 = 0 ∧ ¬ r2 = 0 ∧ isA S1 x0 8 ∧ wX8_result S1 x0 ((x1 * (x7 / r2)) + (x5 * (x3 / r2))) ((x3 / r2) * x7) (fun S6 => Φ S6))
set_option maxHeartbeats 4000000 in
set_option maxRecDepth 100000 in
theorem bX8_sum_b0 {p : Program} {l : Launch} {e : Env} {s : State} {m : MethodId} {args : Array Value} {below : List Frame} {meth : Method} {c : Code} {G : Gw} {x0 : Nat} {x1 : Int64} {x3 : Int64} {x5 : Int64} {x7 : Int64} {Φ : Hp → Prop} (C0 : Mx p s m c cX8_sum 11 args yX8_sum.cls G) (Y : My meth none)  : ∀ (S : Hp) (H : Heap) (locs : List Loc) (ls : Array Slot), wX8_sum_b0 x0 x1 x3 x5 x7 Φ S → Ok G S H → va_S (Ab G.b) s.heap H locs → lv_has ls 11 [(0, .ref x0), (1, .long x1), (3, .long x3), (5, .long x5), (7, .long x7)] → W p l e rm_X8_sum s m args below meth c H locs 0 0 (MQ below (gQ G (PV Φ)) args s rm_X8_sum.cells rm_X8_sum.slots (Ab G.b)) (F0 m 0 ls []) := by
  intro S H locs ls h hO hS hl
  unfold wX8_sum_b0 at h
  refine lv_lload_n C0.1 C0.2.1 dX8_sum_0 rfl (lv_at hl 2 rfl) ?_
  refine lv_lload C0.1 C0.2.1 dX8_sum_1 (lv_at hl 4 rfl) ?_
  refine c_S C0 hO hS (mX8_common h) tb_1536 tb_1537 tb_81 tb_1538 hd_X8_common rfl ⟨⟨by decide, by decide⟩, by decide, by decide⟩ hl.1 rfl (Nat.le_of_ble_eq_true rfl) dX8_sum_3 (kJ (fun r2 S1 H locs h hO hS => ?_))
  refine lv_lstore C0.1 C0.2.1 dX8_sum_6 hl (by decide) rfl (fun ls hl => ?_)
  refine lv_aload_n C0.1 C0.2.1 dX8_sum_8 rfl (lv_at hl 1 rfl) ?_
  refine lv_lload_n C0.1 C0.2.1 dX8_sum_9 rfl (lv_at hl 2 rfl) ?_
  refine lv_lload C0.1 C0.2.1 dX8_sum_10 (lv_at hl 5 rfl) ?_
  refine lv_lload C0.1 C0.2.1 dX8_sum_12 (lv_at hl 0 rfl) ?_
  obtain ⟨e3, h⟩ := h
  refine lv_ldiv C0.1 C0.2.1 dX8_sum_14 e3 ?_
  refine lv_lmul C0.1 C0.2.1 dX8_sum_15 ?_
  refine lv_lload C0.1 C0.2.1 dX8_sum_16 (lv_at hl 4 rfl) ?_
  refine lv_lload_n C0.1 C0.2.1 dX8_sum_18 rfl (lv_at hl 3 rfl) ?_
  refine lv_lload C0.1 C0.2.1 dX8_sum_19 (lv_at hl 0 rfl) ?_
  obtain ⟨e4, h⟩ := h
  refine lv_ldiv C0.1 C0.2.1 dX8_sum_21 e4 ?_
  refine lv_lmul C0.1 C0.2.1 dX8_sum_22 ?_
  refine lv_ladd C0.1 C0.2.1 dX8_sum_23 ?_
  refine lv_lload_n C0.1 C0.2.1 dX8_sum_24 rfl (lv_at hl 3 rfl) ?_
  refine lv_lload C0.1 C0.2.1 dX8_sum_25 (lv_at hl 0 rfl) ?_
  obtain ⟨e5, h⟩ := h
  refine lv_ldiv C0.1 C0.2.1 dX8_sum_27 e5 ?_
  refine lv_lload C0.1 C0.2.1 dX8_sum_28 (lv_at hl 5 rfl) ?_
  refine lv_lmul C0.1 C0.2.1 dX8_sum_30 ?_
  obtain ⟨i7, h⟩ := h
  refine c_V C0 hO hS (mX8_result h) i7 (by decide) rfl rfl tb_1532 tb_1534 tb_48 tb_81 tb_1535 hd_X8_result rfl ⟨⟨by decide, by decide⟩, by decide, by decide⟩ hl.1 rfl (Nat.le_of_ble_eq_true rfl) dX8_sum_31 (kV (fun S6 H locs h hO hS => ?_))
  exact e_V C0 Y hO hS h (Nat.le_refl _) (Nat.le_refl _) dX8_sum_34
def wX8_sum (S : Hp) (x0 : Nat) (x1 : Int64) (x3 : Int64) (x5 : Int64) (x7 : Int64) (Φ : Hp → Prop) : Prop := wX8_sum_b0 x0 x1 x3 x5 x7 Φ S
set_option maxRecDepth 100000 in
theorem mX8_sum {l : Launch} {G : Gw} {S : Hp} {x0 : Nat} {x1 : Int64} {x3 : Int64} {x5 : Int64} {x7 : Int64} {Φ : Hp → Prop} (h : wX8_sum S x0 x1 x3 x5 x7 Φ) : gM l yX8_sum cX8_sum 11 none rm_X8_sum [.ref x0, .long x1, .long x3, .long x5, .long x7] G S (PV Φ) := by
  unfold gM
  refine Met.ofW (cc := cX8_sum) (maxL := 11) (ret := none) (by decide) rfl ?_
  intro p e s m args below meth c s₁ B hml hv
  obtain ⟨rfl, hw⟩ := hv
  obtain ⟨C0, Y, hO⟩ := mx_of B hml hw
  have hS : va_S (Ab G.b) s.heap s.heap [] := va_S.rf
  have hl := lv_entry ([.ref x0, .long x1, .long x3, .long x5, .long x7]) (n := 11) (Nat.le_of_ble_eq_true rfl)
  rw [lg_entry_eq]
  generalize (lg_sl ([.ref x0, .long x1, .long x3, .long x5, .long x7]) ++ List.replicate (11 - (lg_sl ([.ref x0, .long x1, .long x3, .long x5, .long x7])).length) Slot.unset).toArray = ls at hl ⊢
  have hl : lv_has ls 11 [(0, .ref x0), (1, .long x1), (3, .long x3), (5, .long x5), (7, .long x7)] := hl
  exact bX8_sum_b0 C0 Y S _ _ _ h hO hS hl

def rm_X8_product : Room := { frames := 3, cells := 0, slots := 0, locals := 70 }
def wX8_product_b0 (x0 : Nat) (x1 : Int64) (x3 : Int64) (x5 : Int64) (x7 : Int64) (Φ : Hp → Prop) (S : Hp) : Prop := wX8_common S x1 x7 (fun S1 r2 => wX8_common S1 x5 x3 (fun S3 r4 => ¬ r2 = 0 ∧ ¬ r4 = 0 ∧ ¬ r4 = 0 ∧ ¬ r2 = 0 ∧ isA S3 x0 8 ∧ wX8_result S3 x0 ((x1 / r2) * (x5 / r4)) ((x3 / r4) * (x7 / r2)) (fun S9 => Φ S9)))
set_option maxHeartbeats 4000000 in
set_option maxRecDepth 100000 in
theorem bX8_product_b0 {p : Program} {l : Launch} {e : Env} {s : State} {m : MethodId} {args : Array Value} {below : List Frame} {meth : Method} {c : Code} {G : Gw} {x0 : Nat} {x1 : Int64} {x3 : Int64} {x5 : Int64} {x7 : Int64} {Φ : Hp → Prop} (C0 : Mx p s m c cX8_product 13 args yX8_product.cls G) (Y : My meth none)  : ∀ (S : Hp) (H : Heap) (locs : List Loc) (ls : Array Slot), wX8_product_b0 x0 x1 x3 x5 x7 Φ S → Ok G S H → va_S (Ab G.b) s.heap H locs → lv_has ls 13 [(0, .ref x0), (1, .long x1), (3, .long x3), (5, .long x5), (7, .long x7)] → W p l e rm_X8_product s m args below meth c H locs 0 0 (MQ below (gQ G (PV Φ)) args s rm_X8_product.cells rm_X8_product.slots (Ab G.b)) (F0 m 0 ls []) := by
  intro S H locs ls h hO hS hl
  unfold wX8_product_b0 at h
  refine lv_lload_n C0.1 C0.2.1 dX8_product_0 rfl (lv_at hl 1 rfl) ?_
  refine lv_lload C0.1 C0.2.1 dX8_product_1 (lv_at hl 4 rfl) ?_
  refine c_S C0 hO hS (mX8_common h) tb_1536 tb_1537 tb_81 tb_1538 hd_X8_common rfl ⟨⟨by decide, by decide⟩, by decide, by decide⟩ hl.1 rfl (Nat.le_of_ble_eq_true rfl) dX8_product_3 (kJ (fun r2 S1 H locs h hO hS => ?_))
  refine lv_lstore C0.1 C0.2.1 dX8_product_6 hl (by decide) rfl (fun ls hl => ?_)
  refine lv_lload C0.1 C0.2.1 dX8_product_8 (lv_at hl 4 rfl) ?_
  refine lv_lload_n C0.1 C0.2.1 dX8_product_10 rfl (lv_at hl 3 rfl) ?_
  refine c_S C0 hO hS (mX8_common h) tb_1536 tb_1537 tb_81 tb_1538 hd_X8_common rfl ⟨⟨by decide, by decide⟩, by decide, by decide⟩ hl.1 rfl (Nat.le_of_ble_eq_true rfl) dX8_product_11 (kJ (fun r4 S3 H locs h hO hS => ?_))
  refine lv_lstore C0.1 C0.2.1 dX8_product_14 hl (by decide) rfl (fun ls hl => ?_)
  refine lv_aload_n C0.1 C0.2.1 dX8_product_16 rfl (lv_at hl 2 rfl) ?_
  refine lv_lload_n C0.1 C0.2.1 dX8_product_17 rfl (lv_at hl 3 rfl) ?_
  refine lv_lload C0.1 C0.2.1 dX8_product_18 (lv_at hl 1 rfl) ?_
  obtain ⟨e5, h⟩ := h
  refine lv_ldiv C0.1 C0.2.1 dX8_product_20 e5 ?_
  refine lv_lload C0.1 C0.2.1 dX8_product_21 (lv_at hl 5 rfl) ?_
  refine lv_lload C0.1 C0.2.1 dX8_product_23 (lv_at hl 0 rfl) ?_
  obtain ⟨e6, h⟩ := h
  refine lv_ldiv C0.1 C0.2.1 dX8_product_25 e6 ?_
  refine lv_lmul C0.1 C0.2.1 dX8_product_26 ?_
  refine lv_lload_n C0.1 C0.2.1 dX8_product_27 rfl (lv_at hl 4 rfl) ?_
  refine lv_lload C0.1 C0.2.1 dX8_product_28 (lv_at hl 0 rfl) ?_
  obtain ⟨e7, h⟩ := h
  refine lv_ldiv C0.1 C0.2.1 dX8_product_30 e7 ?_
  refine lv_lload C0.1 C0.2.1 dX8_product_31 (lv_at hl 6 rfl) ?_
  refine lv_lload C0.1 C0.2.1 dX8_product_33 (lv_at hl 1 rfl) ?_
  obtain ⟨e8, h⟩ := h
  refine lv_ldiv C0.1 C0.2.1 dX8_product_35 e8 ?_
  refine lv_lmul C0.1 C0.2.1 dX8_product_36 ?_
  obtain ⟨i10, h⟩ := h
  refine c_V C0 hO hS (mX8_result h) i10 (by decide) rfl rfl tb_1532 tb_1534 tb_48 tb_81 tb_1535 hd_X8_result rfl ⟨⟨by decide, by decide⟩, by decide, by decide⟩ hl.1 rfl (Nat.le_of_ble_eq_true rfl) dX8_product_37 (kV (fun S9 H locs h hO hS => ?_))
  exact e_V C0 Y hO hS h (Nat.le_refl _) (Nat.le_refl _) dX8_product_40
def wX8_product (S : Hp) (x0 : Nat) (x1 : Int64) (x3 : Int64) (x5 : Int64) (x7 : Int64) (Φ : Hp → Prop) : Prop := wX8_product_b0 x0 x1 x3 x5 x7 Φ S
set_option maxRecDepth 100000 in
theorem mX8_product {l : Launch} {G : Gw} {S : Hp} {x0 : Nat} {x1 : Int64} {x3 : Int64} {x5 : Int64} {x7 : Int64} {Φ : Hp → Prop} (h : wX8_product S x0 x1 x3 x5 x7 Φ) : gM l yX8_product cX8_product 13 none rm_X8_product [.ref x0, .long x1, .long x3, .long x5, .long x7] G S (PV Φ) := by
  unfold gM
  refine Met.ofW (cc := cX8_product) (maxL := 13) (ret := none) (by decide) rfl ?_
  intro p e s m args below meth c s₁ B hml hv
  obtain ⟨rfl, hw⟩ := hv
  obtain ⟨C0, Y, hO⟩ := mx_of B hml hw
  have hS : va_S (Ab G.b) s.heap s.heap [] := va_S.rf
  have hl := lv_entry ([.ref x0, .long x1, .long x3, .long x5, .long x7]) (n := 13) (Nat.le_of_ble_eq_true rfl)
  rw [lg_entry_eq]
  generalize (lg_sl ([.ref x0, .long x1, .long x3, .long x5, .long x7]) ++ List.replicate (13 - (lg_sl ([.ref x0, .long x1, .long x3, .long x5, .long x7])).length) Slot.unset).toArray = ls at hl ⊢
  have hl : lv_has ls 13 [(0, .ref x0), (1, .long x1), (3, .long x3), (5, .long x5), (7, .long x7)] := hl
  exact bX8_product_b0 C0 Y S _ _ _ h hO hS hl

def rm_X8_floor : Room := { frames := 1, cells := 0, slots := 0, locals := 25 }
def wX8_floor_b0 (x0 : Int64) (x2 : Int64) (x4 : Int64) (Φ : Hp → Int64 → Prop) (S : Hp) : Prop := wJ9_floorDiv_f86c9 S (x0 * x2) x4 (fun S1 r2 => Φ S1 r2)
set_option maxHeartbeats 4000000 in
set_option maxRecDepth 100000 in
theorem bX8_floor_b0 {p : Program} {l : Launch} {e : Env} {s : State} {m : MethodId} {args : Array Value} {below : List Frame} {meth : Method} {c : Code} {G : Gw} {x0 : Int64} {x2 : Int64} {x4 : Int64} {Φ : Hp → Int64 → Prop} (C0 : Mx p s m c cX8_floor 6 args yX8_floor.cls G) (Y : My meth (some .long))  : ∀ (S : Hp) (H : Heap) (locs : List Loc) (ls : Array Slot), wX8_floor_b0 x0 x2 x4 Φ S → Ok G S H → va_S (Ab G.b) s.heap H locs → lv_has ls 6 [(0, .long x0), (2, .long x2), (4, .long x4)] → W p l e rm_X8_floor s m args below meth c H locs 0 0 (MQ below (gQ G (PJ Φ)) args s rm_X8_floor.cells rm_X8_floor.slots (Ab G.b)) (F0 m 0 ls []) := by
  intro S H locs ls h hO hS hl
  unfold wX8_floor_b0 at h
  refine lv_lload_n C0.1 C0.2.1 dX8_floor_0 rfl (lv_at hl 0 rfl) ?_
  refine lv_lload_n C0.1 C0.2.1 dX8_floor_1 rfl (lv_at hl 1 rfl) ?_
  refine lv_lmul C0.1 C0.2.1 dX8_floor_2 ?_
  refine lv_lload C0.1 C0.2.1 dX8_floor_3 (lv_at hl 2 rfl) ?_
  refine c_S C0 hO hS (mJ9_floorDiv_f86c9 h) tb_1497 tb_354 tb_94 tb_355 hd_J9_floorDiv_f86c9 rfl ⟨⟨by decide, by decide⟩, by decide, by decide⟩ hl.1 rfl (Nat.le_of_ble_eq_true rfl) dX8_floor_5 (kJ (fun r2 S1 H locs h hO hS => ?_))
  exact e_J C0 Y hO hS h (Nat.le_refl _) (Nat.le_refl _) dX8_floor_8
def wX8_floor (S : Hp) (x0 : Int64) (x2 : Int64) (x4 : Int64) (Φ : Hp → Int64 → Prop) : Prop := wX8_floor_b0 x0 x2 x4 Φ S
set_option maxRecDepth 100000 in
theorem mX8_floor {l : Launch} {G : Gw} {S : Hp} {x0 : Int64} {x2 : Int64} {x4 : Int64} {Φ : Hp → Int64 → Prop} (h : wX8_floor S x0 x2 x4 Φ) : gM l yX8_floor cX8_floor 6 (some .long) rm_X8_floor [.long x0, .long x2, .long x4] G S (PJ Φ) := by
  unfold gM
  refine Met.ofW (cc := cX8_floor) (maxL := 6) (ret := (some .long)) (by decide) rfl ?_
  intro p e s m args below meth c s₁ B hml hv
  obtain ⟨rfl, hw⟩ := hv
  obtain ⟨C0, Y, hO⟩ := mx_of B hml hw
  have hS : va_S (Ab G.b) s.heap s.heap [] := va_S.rf
  have hl := lv_entry ([.long x0, .long x2, .long x4]) (n := 6) (Nat.le_of_ble_eq_true rfl)
  rw [lg_entry_eq]
  generalize (lg_sl ([.long x0, .long x2, .long x4]) ++ List.replicate (6 - (lg_sl ([.long x0, .long x2, .long x4])).length) Slot.unset).toArray = ls at hl ⊢
  have hl : lv_has ls 6 [(0, .long x0), (2, .long x2), (4, .long x4)] := hl
  exact bX8_floor_b0 C0 Y S _ _ _ h hO hS hl

def rm_X8_shaft : Room := { frames := 1, cells := 0, slots := 0, locals := 22 }
def wX8_shaft_b15 (x0 : Nat) (Φ : Hp → Int32 → Prop) (S : Hp) (z0 : Nat) (z1 : Int32) : Prop := isA S z0 8 ∧ wX8_isThrown S z0 z1 1 (fun S1 r2 => ((r2 = 0 → isA S1 x0 8 ∧ ∃ a6, S1.FR 512 x0 = some a6 ∧ isA S1 a6 22 ∧ vp_in (S1.FI 543 x0) (S1.N a6) ∧ ∀ S9, S9 = S1.setAJ a6 ((S1.FI 543 x0).toNatClampNeg) 0 → ∃ a10, S9.FR 513 x0 = some a10 ∧ isA S9 a10 22 ∧ vp_in (S9.FI 543 x0) (S9.N a10) ∧ ∀ S13, S13 = S9.setAJ a10 ((S9.FI 543 x0).toNatClampNeg) 1 → ∃ a14, S13.FR 519 x0 = some a14 ∧ isA S13 a14 21 ∧ vp_in (S13.FI 543 x0) (S13.N a14) ∧ ∀ S17, S17 = S13.setAI a14 ((S13.FI 543 x0).toNatClampNeg) (-1) → ∀ S18, S18 = S17.setFI 543 x0 ((S17.FI 543 x0) + 1) → Φ S18 ((S18.FI 543 x0) - 1)) ∧ (¬ (r2 = 0) → Φ S1 0)))
set_option maxHeartbeats 4000000 in
set_option maxRecDepth 100000 in
theorem bX8_shaft_b15 {p : Program} {l : Launch} {e : Env} {s : State} {m : MethodId} {args : Array Value} {below : List Frame} {meth : Method} {c : Code} {G : Gw} {x0 : Nat} {Φ : Hp → Int32 → Prop} (C0 : Mx p s m c cX8_shaft 1 args yX8_shaft.cls G) (Y : My meth (some .int))  : ∀ (S : Hp) (z0 : Nat) (z1 : Int32) (H : Heap) (locs : List Loc) (ls : Array Slot), wX8_shaft_b15 x0 Φ S z0 z1 → Ok G S H → va_S (Ab G.b) s.heap H locs → lv_has ls 1 [(0, .ref x0)] → W p l e rm_X8_shaft s m args below meth c H locs 0 0 (MQ below (gQ G (PI Φ)) args s rm_X8_shaft.cells rm_X8_shaft.slots (Ab G.b)) (F0 m 15 ls [.int z1, .ref z0]) := by
  intro S z0 z1 H locs ls h hO hS hl
  unfold wX8_shaft_b15 at h
  refine lv_iconst (v := 1) C0.1 C0.2.1 dX8_shaft_15 (by decide) ?_
  obtain ⟨i3, h⟩ := h
  refine c_V C0 hO hS (mX8_isThrown h) i3 (by decide) rfl rfl tb_1451 tb_1453 tb_37 tb_81 tb_1454 hd_X8_isThrown rfl ⟨⟨by decide, by decide⟩, by decide, by decide⟩ hl.1 rfl (Nat.le_of_ble_eq_true rfl) dX8_shaft_16 (kI (fun r2 S1 H locs h hO hS => ?_))
  refine lv_if_eq (tgt := 24) C0.1 C0.2.1 dX8_shaft_19 (by decide) (fun c4 => ?_) (fun c4 => ?_)
  · have h := h.1 c4
    refine lv_aload_n C0.1 C0.2.1 dX8_shaft_24 rfl (lv_at hl 0 rfl) ?_
    obtain ⟨i5, h⟩ := h
    obtain ⟨a6, ea6, h⟩ := h
    refine g8_0 C0 hO i5 ea6 tb_1328 dX8_shaft_25 ?_
    refine lv_aload_n C0.1 C0.2.1 dX8_shaft_28 rfl (lv_at hl 0 rfl) ?_
    refine g8_31 C0 hO i5 tb_1359 dX8_shaft_29 ?_
    refine lv_lconst (v := 0) C0.1 C0.2.1 dX8_shaft_32 (by decide) ?_
    obtain ⟨i7, h⟩ := h
    obtain ⟨e8, h⟩ := h
    refine r_last C0 hO hS i7 e8 dX8_shaft_33 (fun H locs hO hS => ?_)
    have h := h _ rfl
    refine lv_aload_n C0.1 C0.2.1 dX8_shaft_34 rfl (lv_at hl 0 rfl) ?_
    obtain ⟨a10, ea10, h⟩ := h
    refine g8_1 C0 hO (sA_AJ i5) ea10 tb_1329 dX8_shaft_35 ?_
    refine lv_aload_n C0.1 C0.2.1 dX8_shaft_38 rfl (lv_at hl 0 rfl) ?_
    refine g8_31 C0 hO (sA_AJ i5) tb_1359 dX8_shaft_39 ?_
    refine lv_lconst (v := 1) C0.1 C0.2.1 dX8_shaft_42 (by decide) ?_
    obtain ⟨i11, h⟩ := h
    obtain ⟨e12, h⟩ := h
    refine r_last C0 hO hS i11 e12 dX8_shaft_43 (fun H locs hO hS => ?_)
    have h := h _ rfl
    refine lv_aload_n C0.1 C0.2.1 dX8_shaft_44 rfl (lv_at hl 0 rfl) ?_
    obtain ⟨a14, ea14, h⟩ := h
    refine g8_7 C0 hO (sA_AJ (sA_AJ i5)) ea14 tb_1335 dX8_shaft_45 ?_
    refine lv_aload_n C0.1 C0.2.1 dX8_shaft_48 rfl (lv_at hl 0 rfl) ?_
    refine g8_31 C0 hO (sA_AJ (sA_AJ i5)) tb_1359 dX8_shaft_49 ?_
    refine lv_iconst (v := (-1)) C0.1 C0.2.1 dX8_shaft_52 (by decide) ?_
    obtain ⟨i15, h⟩ := h
    obtain ⟨e16, h⟩ := h
    refine r_iast C0 hO hS i15 e16 dX8_shaft_53 (fun H locs hO hS => ?_)
    have h := h _ rfl
    refine lv_aload_n C0.1 C0.2.1 dX8_shaft_54 rfl (lv_at hl 0 rfl) ?_
    refine lv_dup C0.1 C0.2.1 dX8_shaft_55 rfl ?_
    refine g8_31 C0 hO (sA_AI (sA_AJ (sA_AJ i5))) tb_1359 dX8_shaft_56 ?_
    refine lv_iconst (v := 1) C0.1 C0.2.1 dX8_shaft_59 (by decide) ?_
    refine lv_iadd C0.1 C0.2.1 dX8_shaft_60 ?_
    refine p8_31 C0 hO hS (sA_AI (sA_AJ (sA_AJ i5))) tb_1359 dX8_shaft_61 (fun H locs hO hS => ?_)
    have h := h _ rfl
    refine lv_aload_n C0.1 C0.2.1 dX8_shaft_64 rfl (lv_at hl 0 rfl) ?_
    refine g8_31 C0 hO (sA_FI (sA_AI (sA_AJ (sA_AJ i5)))) tb_1359 dX8_shaft_65 ?_
    refine lv_iconst (v := 1) C0.1 C0.2.1 dX8_shaft_68 (by decide) ?_
    refine lv_isub C0.1 C0.2.1 dX8_shaft_69 ?_
    exact e_I C0 Y hO hS h (Nat.le_refl _) (Nat.le_refl _) dX8_shaft_70
  · have h := h.2 c4
    refine lv_iconst (v := 0) C0.1 C0.2.1 dX8_shaft_22 (by decide) ?_
    exact e_I C0 Y hO hS h (Nat.le_refl _) (Nat.le_refl _) dX8_shaft_23
def wX8_shaft_b0 (x0 : Nat) (Φ : Hp → Int32 → Prop) (S : Hp) : Prop := isA S x0 8 ∧ ((¬ (S.FI 543 x0) = 14 → wX8_shaft_b15 x0 Φ S x0 0) ∧ ((S.FI 543 x0) = 14 → wX8_shaft_b15 x0 Φ S x0 1))
set_option maxHeartbeats 4000000 in
set_option maxRecDepth 100000 in
theorem bX8_shaft_b0 {p : Program} {l : Launch} {e : Env} {s : State} {m : MethodId} {args : Array Value} {below : List Frame} {meth : Method} {c : Code} {G : Gw} {x0 : Nat} {Φ : Hp → Int32 → Prop} (C0 : Mx p s m c cX8_shaft 1 args yX8_shaft.cls G) (Y : My meth (some .int))  : ∀ (S : Hp) (H : Heap) (locs : List Loc) (ls : Array Slot), wX8_shaft_b0 x0 Φ S → Ok G S H → va_S (Ab G.b) s.heap H locs → lv_has ls 1 [(0, .ref x0)] → W p l e rm_X8_shaft s m args below meth c H locs 0 0 (MQ below (gQ G (PI Φ)) args s rm_X8_shaft.cells rm_X8_shaft.slots (Ab G.b)) (F0 m 0 ls []) := by
  intro S H locs ls h hO hS hl
  unfold wX8_shaft_b0 at h
  refine lv_aload_n C0.1 C0.2.1 dX8_shaft_0 rfl (lv_at hl 0 rfl) ?_
  refine lv_aload_n C0.1 C0.2.1 dX8_shaft_1 rfl (lv_at hl 0 rfl) ?_
  obtain ⟨i1, h⟩ := h
  refine g8_31 C0 hO i1 tb_1359 dX8_shaft_2 ?_
  refine lv_bipush (v := 14) C0.1 C0.2.1 dX8_shaft_5 (by decide) ?_
  refine lv_icmp_ne (tgt := 14) C0.1 C0.2.1 dX8_shaft_7 (by decide) (fun c2 => ?_) (fun c2 => ?_)
  · have h := h.1 c2
    refine lv_iconst (v := 0) C0.1 C0.2.1 dX8_shaft_14 (by decide) ?_
    exact bX8_shaft_b15 C0 Y _ _ _ _ _ _ h hO hS (lv_sub hl [0] rfl)
  · have h := h.2 c2
    refine lv_iconst (v := 1) C0.1 C0.2.1 dX8_shaft_10 (by decide) ?_
    refine lv_goto (tgt := 15) C0.1 C0.2.1 dX8_shaft_11 (by decide) ?_
    exact bX8_shaft_b15 C0 Y _ _ _ _ _ _ h hO hS (lv_sub hl [0] rfl)
def wX8_shaft (S : Hp) (x0 : Nat) (Φ : Hp → Int32 → Prop) : Prop := wX8_shaft_b0 x0 Φ S
set_option maxRecDepth 100000 in
theorem mX8_shaft {l : Launch} {G : Gw} {S : Hp} {x0 : Nat} {Φ : Hp → Int32 → Prop} (h : wX8_shaft S x0 Φ) : gM l yX8_shaft cX8_shaft 1 (some .int) rm_X8_shaft [.ref x0] G S (PI Φ) := by
  unfold gM
  refine Met.ofW (cc := cX8_shaft) (maxL := 1) (ret := (some .int)) (by decide) rfl ?_
  intro p e s m args below meth c s₁ B hml hv
  obtain ⟨rfl, hw⟩ := hv
  obtain ⟨C0, Y, hO⟩ := mx_of B hml hw
  have hS : va_S (Ab G.b) s.heap s.heap [] := va_S.rf
  have hl := lv_entry ([.ref x0]) (n := 1) (Nat.le_of_ble_eq_true rfl)
  rw [lg_entry_eq]
  generalize (lg_sl ([.ref x0]) ++ List.replicate (1 - (lg_sl ([.ref x0])).length) Slot.unset).toArray = ls at hl ⊢
  have hl : lv_has ls 1 [(0, .ref x0)] := hl
  exact bX8_shaft_b0 C0 Y S _ _ _ h hO hS hl

def rm_X8_leads (d : Nat) : Room := { frames := 0 + d, cells := 0, slots := 0, locals := 0 + d * 24 }
def wX8_leads_b67 (rec : Hp → Nat → Int32 → Int32 → (Hp → Int32 → Prop) → Prop) (x0 : Nat) (x1 : Int32) (x2 : Int32) (Φ : Hp → Int32 → Prop) (k12 : Hp → Int32 → Int32 → Prop) (S : Hp) (v4 : Int32) (z0 : Int32) : Prop := k12 S z0 (v4 + 1)
set_option maxHeartbeats 4000000 in
set_option maxRecDepth 100000 in
theorem bX8_leads_b67 {p : Program} {l : Launch} {e : Env} {s : State} {m : MethodId} {args : Array Value} {below : List Frame} {meth : Method} {c : Code} {G : Gw} {rec : Hp → Nat → Int32 → Int32 → (Hp → Int32 → Prop) → Prop} {x0 : Nat} {x1 : Int32} {x2 : Int32} {Φ : Hp → Int32 → Prop} (C0 : Mx p s m c cX8_leads 5 args yX8_leads.cls G) (Y : My meth (some .boolean)) {d9 : Nat} (ihr : ∀ {S : Hp} {x0 : Nat} {x1 : Int32} {x2 : Int32} {Φ : Hp → Int32 → Prop}, rec S x0 x1 x2 Φ → gM l yX8_leads cX8_leads 5 (some .boolean) (rm_X8_leads d9) [.ref x0, .int x1, .int x2] G S (PI Φ)) {k12 : Hp → Int32 → Int32 → Prop} (hk12 : ∀ (S : Hp) (v3 : Int32) (v4 : Int32) (H : Heap) (locs : List Loc) (ls : Array Slot), k12 S v3 v4 → Ok G S H → va_S (Ab G.b) s.heap H locs → lv_has ls 5 [(0, .ref x0), (1, .int x1), (2, .int x2), (3, .int v3), (4, .int v4)] → W p l e (rm_X8_leads (d9 + 1)) s m args below meth c H locs 0 0 (MQ below (gQ G (PI Φ)) args s (rm_X8_leads (d9 + 1)).cells (rm_X8_leads (d9 + 1)).slots (Ab G.b)) (F0 m 12 ls [])) : ∀ (S : Hp) (v4 : Int32) (z0 : Int32) (H : Heap) (locs : List Loc) (ls : Array Slot), wX8_leads_b67 rec x0 x1 x2 Φ k12 S v4 z0 → Ok G S H → va_S (Ab G.b) s.heap H locs → lv_has ls 5 [(0, .ref x0), (1, .int x1), (2, .int x2), (4, .int v4)] → W p l e (rm_X8_leads (d9 + 1)) s m args below meth c H locs 0 0 (MQ below (gQ G (PI Φ)) args s (rm_X8_leads (d9 + 1)).cells (rm_X8_leads (d9 + 1)).slots (Ab G.b)) (F0 m 67 ls [.int z0]) := by
  intro S v4 z0 H locs ls h hO hS hl
  unfold wX8_leads_b67 at h
  refine lv_istore_n C0.1 C0.2.1 dX8_leads_67 rfl hl (by decide) rfl (fun ls hl => ?_)
  refine lv_iinc (v := _ + 1) C0.1 C0.2.1 dX8_leads_68 hl (k := 4) rfl rfl (by decide) rfl (fun ls hl => ?_)
  refine lv_goto (tgt := 12) C0.1 C0.2.1 dX8_leads_71 (by decide) ?_
  exact hk12 _ _ _ _ _ _ h hO hS (lv_sub hl [2, 3, 4, 1, 0] rfl)
def wX8_leads_b66 (rec : Hp → Nat → Int32 → Int32 → (Hp → Int32 → Prop) → Prop) (x0 : Nat) (x1 : Int32) (x2 : Int32) (Φ : Hp → Int32 → Prop) (k12 : Hp → Int32 → Int32 → Prop) (S : Hp) (v4 : Int32) : Prop := wX8_leads_b67 rec x0 x1 x2 Φ k12 S v4 0
set_option maxHeartbeats 4000000 in
set_option maxRecDepth 100000 in
theorem bX8_leads_b66 {p : Program} {l : Launch} {e : Env} {s : State} {m : MethodId} {args : Array Value} {below : List Frame} {meth : Method} {c : Code} {G : Gw} {rec : Hp → Nat → Int32 → Int32 → (Hp → Int32 → Prop) → Prop} {x0 : Nat} {x1 : Int32} {x2 : Int32} {Φ : Hp → Int32 → Prop} (C0 : Mx p s m c cX8_leads 5 args yX8_leads.cls G) (Y : My meth (some .boolean)) {d9 : Nat} (ihr : ∀ {S : Hp} {x0 : Nat} {x1 : Int32} {x2 : Int32} {Φ : Hp → Int32 → Prop}, rec S x0 x1 x2 Φ → gM l yX8_leads cX8_leads 5 (some .boolean) (rm_X8_leads d9) [.ref x0, .int x1, .int x2] G S (PI Φ)) {k12 : Hp → Int32 → Int32 → Prop} (hk12 : ∀ (S : Hp) (v3 : Int32) (v4 : Int32) (H : Heap) (locs : List Loc) (ls : Array Slot), k12 S v3 v4 → Ok G S H → va_S (Ab G.b) s.heap H locs → lv_has ls 5 [(0, .ref x0), (1, .int x1), (2, .int x2), (3, .int v3), (4, .int v4)] → W p l e (rm_X8_leads (d9 + 1)) s m args below meth c H locs 0 0 (MQ below (gQ G (PI Φ)) args s (rm_X8_leads (d9 + 1)).cells (rm_X8_leads (d9 + 1)).slots (Ab G.b)) (F0 m 12 ls [])) : ∀ (S : Hp) (v4 : Int32) (H : Heap) (locs : List Loc) (ls : Array Slot), wX8_leads_b66 rec x0 x1 x2 Φ k12 S v4 → Ok G S H → va_S (Ab G.b) s.heap H locs → lv_has ls 5 [(0, .ref x0), (1, .int x1), (2, .int x2), (4, .int v4)] → W p l e (rm_X8_leads (d9 + 1)) s m args below meth c H locs 0 0 (MQ below (gQ G (PI Φ)) args s (rm_X8_leads (d9 + 1)).cells (rm_X8_leads (d9 + 1)).slots (Ab G.b)) (F0 m 66 ls []) := by
  intro S v4 H locs ls h hO hS hl
  unfold wX8_leads_b66 at h
  refine lv_iconst (v := 0) C0.1 C0.2.1 dX8_leads_66 (by decide) ?_
  exact bX8_leads_b67 C0 Y ihr hk12 _ _ _ _ _ _ h hO hS (lv_sub hl [0, 1, 2, 3] rfl)
def wX8_leads_b47 (rec : Hp → Nat → Int32 → Int32 → (Hp → Int32 → Prop) → Prop) (x0 : Nat) (x1 : Int32) (x2 : Int32) (Φ : Hp → Int32 → Prop) (k12 : Hp → Int32 → Int32 → Prop) (S : Hp) (v4 : Int32) : Prop := isA S x0 8 ∧ ∃ a2, S.FR 524 x0 = some a2 ∧ isA S a2 21 ∧ vp_in v4 (S.N a2) ∧ rec S x0 (S.AI a2 v4.toNatClampNeg) x2 (fun S5 r6 => ((r6 = 0 → wX8_leads_b66 rec x0 x1 x2 Φ k12 S5 v4) ∧ (¬ (r6 = 0) → wX8_leads_b67 rec x0 x1 x2 Φ k12 S5 v4 1)))
set_option maxHeartbeats 4000000 in
set_option maxRecDepth 100000 in
theorem bX8_leads_b47 {p : Program} {l : Launch} {e : Env} {s : State} {m : MethodId} {args : Array Value} {below : List Frame} {meth : Method} {c : Code} {G : Gw} {rec : Hp → Nat → Int32 → Int32 → (Hp → Int32 → Prop) → Prop} {x0 : Nat} {x1 : Int32} {x2 : Int32} {Φ : Hp → Int32 → Prop} (C0 : Mx p s m c cX8_leads 5 args yX8_leads.cls G) (Y : My meth (some .boolean)) {d9 : Nat} (ihr : ∀ {S : Hp} {x0 : Nat} {x1 : Int32} {x2 : Int32} {Φ : Hp → Int32 → Prop}, rec S x0 x1 x2 Φ → gM l yX8_leads cX8_leads 5 (some .boolean) (rm_X8_leads d9) [.ref x0, .int x1, .int x2] G S (PI Φ)) {k12 : Hp → Int32 → Int32 → Prop} (hk12 : ∀ (S : Hp) (v3 : Int32) (v4 : Int32) (H : Heap) (locs : List Loc) (ls : Array Slot), k12 S v3 v4 → Ok G S H → va_S (Ab G.b) s.heap H locs → lv_has ls 5 [(0, .ref x0), (1, .int x1), (2, .int x2), (3, .int v3), (4, .int v4)] → W p l e (rm_X8_leads (d9 + 1)) s m args below meth c H locs 0 0 (MQ below (gQ G (PI Φ)) args s (rm_X8_leads (d9 + 1)).cells (rm_X8_leads (d9 + 1)).slots (Ab G.b)) (F0 m 12 ls [])) : ∀ (S : Hp) (v4 : Int32) (H : Heap) (locs : List Loc) (ls : Array Slot), wX8_leads_b47 rec x0 x1 x2 Φ k12 S v4 → Ok G S H → va_S (Ab G.b) s.heap H locs → lv_has ls 5 [(0, .ref x0), (1, .int x1), (2, .int x2), (4, .int v4)] → W p l e (rm_X8_leads (d9 + 1)) s m args below meth c H locs 0 0 (MQ below (gQ G (PI Φ)) args s (rm_X8_leads (d9 + 1)).cells (rm_X8_leads (d9 + 1)).slots (Ab G.b)) (F0 m 47 ls []) := by
  intro S v4 H locs ls h hO hS hl
  unfold wX8_leads_b47 at h
  refine lv_aload_n C0.1 C0.2.1 dX8_leads_47 rfl (lv_at hl 0 rfl) ?_
  refine lv_aload_n C0.1 C0.2.1 dX8_leads_48 rfl (lv_at hl 0 rfl) ?_
  obtain ⟨i1, h⟩ := h
  obtain ⟨a2, ea2, h⟩ := h
  refine g8_12 C0 hO i1 ea2 tb_1340 dX8_leads_49 ?_
  refine lv_iload C0.1 C0.2.1 dX8_leads_52 (lv_at hl 3 rfl) ?_
  obtain ⟨i3, h⟩ := h
  obtain ⟨e4, h⟩ := h
  refine r_iald C0 hO i3 e4 dX8_leads_54 ?_
  refine lv_iload_n C0.1 C0.2.1 dX8_leads_55 rfl (lv_at hl 2 rfl) ?_
  refine c_V C0 hO hS (ihr h) i1 (by decide) rfl rfl tb_1473 tb_1475 tb_40 tb_81 tb_1476 hd_X8_leads rfl ⟨⟨by simp only [rm_X8_leads]; omega, by simp only [rm_X8_leads]; omega⟩, Nat.le_refl _, Nat.le_refl _⟩ hl.1 rfl (Nat.le_of_ble_eq_true rfl) dX8_leads_56 (kI (fun r6 S5 H locs h hO hS => ?_))
  refine lv_if_eq (tgt := 66) C0.1 C0.2.1 dX8_leads_59 (by decide) (fun c7 => ?_) (fun c7 => ?_)
  · have h := h.1 c7
    exact bX8_leads_b66 C0 Y ihr hk12 _ _ _ _ _ h hO hS (lv_sub hl [0, 1, 2, 3] rfl)
  · have h := h.2 c7
    refine lv_iconst (v := 1) C0.1 C0.2.1 dX8_leads_62 (by decide) ?_
    refine lv_goto (tgt := 67) C0.1 C0.2.1 dX8_leads_63 (by decide) ?_
    exact bX8_leads_b67 C0 Y ihr hk12 _ _ _ _ _ _ h hO hS (lv_sub hl [0, 1, 2, 3] rfl)
def wX8_leads_b12 (rec : Hp → Nat → Int32 → Int32 → (Hp → Int32 → Prop) → Prop) (x0 : Nat) (x1 : Int32) (x2 : Int32) (Φ : Hp → Int32 → Prop) (k12 : Hp → Int32 → Int32 → Prop) (S : Hp) (v3 : Int32) (v4 : Int32) : Prop := isA S x0 8 ∧ (((S.FI 544 x0) ≤ v4 → narrow .boolean (.int v3) = .int v3 ∧ Φ S v3) ∧ (¬ ((S.FI 544 x0) ≤ v4) → ((¬ v3 = 0 → narrow .boolean (.int v3) = .int v3 ∧ Φ S v3) ∧ (v3 = 0 → ∃ a4, S.FR 522 x0 = some a4 ∧ isA S a4 21 ∧ vp_in v4 (S.N a4) ∧ (((S.AI a4 v4.toNatClampNeg) = x1 → wX8_leads_b47 rec x0 x1 x2 Φ k12 S v4) ∧ (¬ ((S.AI a4 v4.toNatClampNeg) = x1) → ∃ a8, S.FR 523 x0 = some a8 ∧ isA S a8 21 ∧ vp_in v4 (S.N a8) ∧ ((¬ (S.AI a8 v4.toNatClampNeg) = x1 → wX8_leads_b66 rec x0 x1 x2 Φ k12 S v4) ∧ ((S.AI a8 v4.toNatClampNeg) = x1 → wX8_leads_b47 rec x0 x1 x2 Φ k12 S v4))))))))
set_option maxHeartbeats 4000000 in
set_option maxRecDepth 100000 in
theorem bX8_leads_b12 {p : Program} {l : Launch} {e : Env} {s : State} {m : MethodId} {args : Array Value} {below : List Frame} {meth : Method} {c : Code} {G : Gw} {rec : Hp → Nat → Int32 → Int32 → (Hp → Int32 → Prop) → Prop} {x0 : Nat} {x1 : Int32} {x2 : Int32} {Φ : Hp → Int32 → Prop} (C0 : Mx p s m c cX8_leads 5 args yX8_leads.cls G) (Y : My meth (some .boolean)) {d9 : Nat} (ihr : ∀ {S : Hp} {x0 : Nat} {x1 : Int32} {x2 : Int32} {Φ : Hp → Int32 → Prop}, rec S x0 x1 x2 Φ → gM l yX8_leads cX8_leads 5 (some .boolean) (rm_X8_leads d9) [.ref x0, .int x1, .int x2] G S (PI Φ)) {k12 : Hp → Int32 → Int32 → Prop} (hk12 : ∀ (S : Hp) (v3 : Int32) (v4 : Int32) (H : Heap) (locs : List Loc) (ls : Array Slot), k12 S v3 v4 → Ok G S H → va_S (Ab G.b) s.heap H locs → lv_has ls 5 [(0, .ref x0), (1, .int x1), (2, .int x2), (3, .int v3), (4, .int v4)] → W p l e (rm_X8_leads (d9 + 1)) s m args below meth c H locs 0 0 (MQ below (gQ G (PI Φ)) args s (rm_X8_leads (d9 + 1)).cells (rm_X8_leads (d9 + 1)).slots (Ab G.b)) (F0 m 12 ls [])) : ∀ (S : Hp) (v3 : Int32) (v4 : Int32) (H : Heap) (locs : List Loc) (ls : Array Slot), wX8_leads_b12 rec x0 x1 x2 Φ k12 S v3 v4 → Ok G S H → va_S (Ab G.b) s.heap H locs → lv_has ls 5 [(0, .ref x0), (1, .int x1), (2, .int x2), (3, .int v3), (4, .int v4)] → W p l e (rm_X8_leads (d9 + 1)) s m args below meth c H locs 0 0 (MQ below (gQ G (PI Φ)) args s (rm_X8_leads (d9 + 1)).cells (rm_X8_leads (d9 + 1)).slots (Ab G.b)) (F0 m 12 ls []) := by
  intro S v3 v4 H locs ls h hO hS hl
  unfold wX8_leads_b12 at h
  refine lv_iload C0.1 C0.2.1 dX8_leads_12 (lv_at hl 4 rfl) ?_
  refine lv_aload_n C0.1 C0.2.1 dX8_leads_14 rfl (lv_at hl 0 rfl) ?_
  obtain ⟨i1, h⟩ := h
  refine g8_32 C0 hO i1 tb_1360 dX8_leads_15 ?_
  refine lv_icmp_ge (tgt := 74) C0.1 C0.2.1 dX8_leads_18 (by decide) (fun c2 => ?_) (fun c2 => ?_)
  · have h := h.1 c2
    refine lv_iload_n C0.1 C0.2.1 dX8_leads_74 rfl (lv_at hl 3 rfl) ?_
    exact e_Z C0 Y hO hS h.1 h.2 (Nat.le_refl _) (Nat.le_refl _) dX8_leads_75
  · have h := h.2 c2
    refine lv_iload_n C0.1 C0.2.1 dX8_leads_21 rfl (lv_at hl 3 rfl) ?_
    refine lv_if_ne (tgt := 74) C0.1 C0.2.1 dX8_leads_22 (by decide) (fun c3 => ?_) (fun c3 => ?_)
    · have h := h.1 c3
      refine lv_iload_n C0.1 C0.2.1 dX8_leads_74 rfl (lv_at hl 3 rfl) ?_
      exact e_Z C0 Y hO hS h.1 h.2 (Nat.le_refl _) (Nat.le_refl _) dX8_leads_75
    · have h := h.2 c3
      refine lv_aload_n C0.1 C0.2.1 dX8_leads_25 rfl (lv_at hl 0 rfl) ?_
      obtain ⟨a4, ea4, h⟩ := h
      refine g8_10 C0 hO i1 ea4 tb_1338 dX8_leads_26 ?_
      refine lv_iload C0.1 C0.2.1 dX8_leads_29 (lv_at hl 4 rfl) ?_
      obtain ⟨i5, h⟩ := h
      obtain ⟨e6, h⟩ := h
      refine r_iald C0 hO i5 e6 dX8_leads_31 ?_
      refine lv_iload_n C0.1 C0.2.1 dX8_leads_32 rfl (lv_at hl 1 rfl) ?_
      refine lv_icmp_eq (tgt := 47) C0.1 C0.2.1 dX8_leads_33 (by decide) (fun c7 => ?_) (fun c7 => ?_)
      · have h := h.1 c7
        exact bX8_leads_b47 C0 Y ihr hk12 _ _ _ _ _ h hO hS (lv_sub hl [0, 1, 2, 4] rfl)
      · have h := h.2 c7
        refine lv_aload_n C0.1 C0.2.1 dX8_leads_36 rfl (lv_at hl 0 rfl) ?_
        obtain ⟨a8, ea8, h⟩ := h
        refine g8_11 C0 hO i1 ea8 tb_1339 dX8_leads_37 ?_
        refine lv_iload C0.1 C0.2.1 dX8_leads_40 (lv_at hl 4 rfl) ?_
        obtain ⟨i9, h⟩ := h
        obtain ⟨e10, h⟩ := h
        refine r_iald C0 hO i9 e10 dX8_leads_42 ?_
        refine lv_iload_n C0.1 C0.2.1 dX8_leads_43 rfl (lv_at hl 1 rfl) ?_
        refine lv_icmp_ne (tgt := 66) C0.1 C0.2.1 dX8_leads_44 (by decide) (fun c11 => ?_) (fun c11 => ?_)
        · have h := h.1 c11
          exact bX8_leads_b66 C0 Y ihr hk12 _ _ _ _ _ h hO hS (lv_sub hl [0, 1, 2, 4] rfl)
        · have h := h.2 c11
          exact bX8_leads_b47 C0 Y ihr hk12 _ _ _ _ _ h hO hS (lv_sub hl [0, 1, 2, 4] rfl)
set_option maxHeartbeats 4000000 in
set_option maxRecDepth 100000 in
theorem lX8_leads_b12 {p : Program} {l : Launch} {e : Env} {s : State} {m : MethodId} {args : Array Value} {below : List Frame} {meth : Method} {c : Code} {G : Gw} {rec : Hp → Nat → Int32 → Int32 → (Hp → Int32 → Prop) → Prop} {x0 : Nat} {x1 : Int32} {x2 : Int32} {Φ : Hp → Int32 → Prop} (C0 : Mx p s m c cX8_leads 5 args yX8_leads.cls G) (Y : My meth (some .boolean)) {d9 : Nat} (ihr : ∀ {S : Hp} {x0 : Nat} {x1 : Int32} {x2 : Int32} {Φ : Hp → Int32 → Prop}, rec S x0 x1 x2 Φ → gM l yX8_leads cX8_leads 5 (some .boolean) (rm_X8_leads d9) [.ref x0, .int x1, .int x2] G S (PI Φ))  : ∀ n9 : Nat, ∀ (S : Hp) (v3 : Int32) (v4 : Int32) (H : Heap) (locs : List Loc) (ls : Array Slot), it3 (wX8_leads_b12 rec x0 x1 x2 Φ) n9 S v3 v4 → Ok G S H → va_S (Ab G.b) s.heap H locs → lv_has ls 5 [(0, .ref x0), (1, .int x1), (2, .int x2), (3, .int v3), (4, .int v4)] → W p l e (rm_X8_leads (d9 + 1)) s m args below meth c H locs 0 0 (MQ below (gQ G (PI Φ)) args s (rm_X8_leads (d9 + 1)).cells (rm_X8_leads (d9 + 1)).slots (Ab G.b)) (F0 m 12 ls []) := by
  intro n9
  induction n9 with
  | zero => intro S v3 v4 H locs ls h; exact (h : False).elim
  | succ n9 ih => intro S v3 v4 H locs ls h hO hS hl; exact bX8_leads_b12 C0 Y ihr ih S v3 v4 H locs ls h hO hS hl
def wX8_leads_b0 (rec : Hp → Nat → Int32 → Int32 → (Hp → Int32 → Prop) → Prop) (x0 : Nat) (x1 : Int32) (x2 : Int32) (Φ : Hp → Int32 → Prop) (S : Hp) : Prop := ((¬ x1 = x2 → ∃ n, it3 (wX8_leads_b12 rec x0 x1 x2 Φ) n S 0 0) ∧ (x1 = x2 → Φ S 1))
set_option maxHeartbeats 4000000 in
set_option maxRecDepth 100000 in
theorem bX8_leads_b0 {p : Program} {l : Launch} {e : Env} {s : State} {m : MethodId} {args : Array Value} {below : List Frame} {meth : Method} {c : Code} {G : Gw} {rec : Hp → Nat → Int32 → Int32 → (Hp → Int32 → Prop) → Prop} {x0 : Nat} {x1 : Int32} {x2 : Int32} {Φ : Hp → Int32 → Prop} (C0 : Mx p s m c cX8_leads 5 args yX8_leads.cls G) (Y : My meth (some .boolean)) {d9 : Nat} (ihr : ∀ {S : Hp} {x0 : Nat} {x1 : Int32} {x2 : Int32} {Φ : Hp → Int32 → Prop}, rec S x0 x1 x2 Φ → gM l yX8_leads cX8_leads 5 (some .boolean) (rm_X8_leads d9) [.ref x0, .int x1, .int x2] G S (PI Φ))  : ∀ (S : Hp) (H : Heap) (locs : List Loc) (ls : Array Slot), wX8_leads_b0 rec x0 x1 x2 Φ S → Ok G S H → va_S (Ab G.b) s.heap H locs → lv_has ls 5 [(0, .ref x0), (1, .int x1), (2, .int x2)] → W p l e (rm_X8_leads (d9 + 1)) s m args below meth c H locs 0 0 (MQ below (gQ G (PI Φ)) args s (rm_X8_leads (d9 + 1)).cells (rm_X8_leads (d9 + 1)).slots (Ab G.b)) (F0 m 0 ls []) := by
  intro S H locs ls h hO hS hl
  unfold wX8_leads_b0 at h
  refine lv_iload_n C0.1 C0.2.1 dX8_leads_0 rfl (lv_at hl 1 rfl) ?_
  refine lv_iload_n C0.1 C0.2.1 dX8_leads_1 rfl (lv_at hl 2 rfl) ?_
  refine lv_icmp_ne (tgt := 7) C0.1 C0.2.1 dX8_leads_2 (by decide) (fun c1 => ?_) (fun c1 => ?_)
  · have h := h.1 c1
    refine lv_iconst (v := 0) C0.1 C0.2.1 dX8_leads_7 (by decide) ?_
    refine lv_istore_n C0.1 C0.2.1 dX8_leads_8 rfl hl (by decide) rfl (fun ls hl => ?_)
    refine lv_iconst (v := 0) C0.1 C0.2.1 dX8_leads_9 (by decide) ?_
    refine lv_istore C0.1 C0.2.1 dX8_leads_10 hl (by decide) rfl (fun ls hl => ?_)
    obtain ⟨n9, h⟩ := h
    exact lX8_leads_b12 C0 Y ihr n9 _ _ _ _ _ _ h hO hS (lv_sub hl [2, 3, 4, 1, 0] rfl)
  · have h := h.2 c1
    refine lv_iconst (v := 1) C0.1 C0.2.1 dX8_leads_5 (by decide) ?_
    exact e_Z C0 Y hO hS rfl h (Nat.le_refl _) (Nat.le_refl _) dX8_leads_6
def wX8_leads : Nat → Hp → Nat → Int32 → Int32 → (Hp → Int32 → Prop) → Prop
  | 0 => fun _ _ _ _ _ => False
  | d + 1 => fun S x0 x1 x2 Φ => wX8_leads_b0 (wX8_leads d) x0 x1 x2 Φ S
set_option maxRecDepth 100000 in
theorem mX8_leads {l : Launch} {G : Gw} : ∀ (d : Nat) {S : Hp} {x0 : Nat} {x1 : Int32} {x2 : Int32} {Φ : Hp → Int32 → Prop}, wX8_leads d S x0 x1 x2 Φ → gM l yX8_leads cX8_leads 5 (some .boolean) (rm_X8_leads d) [.ref x0, .int x1, .int x2] G S (PI Φ) := by
  intro d
  induction d with
  | zero => intro S x0 x1 x2 Φ h; exact (h : False).elim
  | succ d9 ih =>
    intro S x0 x1 x2 Φ h
    unfold gM
    refine Met.ofW (cc := cX8_leads) (maxL := 5) (ret := (some .boolean)) (by decide) rfl ?_
    intro p e s m args below meth c s₁ B hml hv
    obtain ⟨rfl, hw⟩ := hv
    obtain ⟨C0, Y, hO⟩ := mx_of B hml hw
    have hS : va_S (Ab G.b) s.heap s.heap [] := va_S.rf
    have hl := lv_entry ([.ref x0, .int x1, .int x2]) (n := 5) (Nat.le_of_ble_eq_true rfl)
    rw [lg_entry_eq]
    generalize (lg_sl ([.ref x0, .int x1, .int x2]) ++ List.replicate (5 - (lg_sl ([.ref x0, .int x1, .int x2])).length) Slot.unset).toArray = ls at hl ⊢
    have hl : lv_has ls 5 [(0, .ref x0), (1, .int x1), (2, .int x2)] := hl
    exact bX8_leads_b0 C0 Y (fun h => ih h) S _ _ _ h hO hS hl

def rm_X8_depthOf (d : Nat) : Room := { frames := 1 + d, cells := 0, slots := 0, locals := 16 + d * 23 }
def wX8_depthOf_b0 (rec : Hp → Nat → Int32 → (Hp → Int32 → Prop) → Prop) (x0 : Nat) (x1 : Int32) (Φ : Hp → Int32 → Prop) (S : Hp) : Prop := isA S x0 8 ∧ ∃ a2, S.FR 519 x0 = some a2 ∧ isA S a2 21 ∧ vp_in x1 (S.N a2) ∧ ((¬ (S.AI a2 x1.toNatClampNeg) = (-1) → ∃ a6, S.FR 522 x0 = some a6 ∧ isA S a6 21 ∧ vp_in (S.AI a2 x1.toNatClampNeg) (S.N a6) ∧ rec S x0 (S.AI a6 ((S.AI a2 x1.toNatClampNeg).toNatClampNeg)) (fun S9 r10 => isA S9 x0 8 ∧ ∃ a12, S9.FR 523 x0 = some a12 ∧ isA S9 a12 21 ∧ vp_in (S.AI a2 x1.toNatClampNeg) (S9.N a12) ∧ ((¬ (S9.AI a12 ((S.AI a2 x1.toNatClampNeg).toNatClampNeg)) = (-1) → ∃ a16, S9.FR 523 x0 = some a16 ∧ isA S9 a16 21 ∧ vp_in (S.AI a2 x1.toNatClampNeg) (S9.N a16) ∧ rec S9 x0 (S9.AI a16 ((S.AI a2 x1.toNatClampNeg).toNatClampNeg)) (fun S19 r20 => Φ S19 (1 + (if r10 < r20 then r20 else r10)))) ∧ ((S9.AI a12 ((S.AI a2 x1.toNatClampNeg).toNatClampNeg)) = (-1) → Φ S9 (1 + r10))))) ∧ ((S.AI a2 x1.toNatClampNeg) = (-1) → Φ S 0))
set_option maxHeartbeats 4000000 in
set_option maxRecDepth 100000 in
theorem bX8_depthOf_b0 {p : Program} {l : Launch} {e : Env} {s : State} {m : MethodId} {args : Array Value} {below : List Frame} {meth : Method} {c : Code} {G : Gw} {rec : Hp → Nat → Int32 → (Hp → Int32 → Prop) → Prop} {x0 : Nat} {x1 : Int32} {Φ : Hp → Int32 → Prop} (C0 : Mx p s m c cX8_depthOf 4 args yX8_depthOf.cls G) (Y : My meth (some .int)) {d9 : Nat} (ihr : ∀ {S : Hp} {x0 : Nat} {x1 : Int32} {Φ : Hp → Int32 → Prop}, rec S x0 x1 Φ → gM l yX8_depthOf cX8_depthOf 4 (some .int) (rm_X8_depthOf d9) [.ref x0, .int x1] G S (PI Φ))  : ∀ (S : Hp) (H : Heap) (locs : List Loc) (ls : Array Slot), wX8_depthOf_b0 rec x0 x1 Φ S → Ok G S H → va_S (Ab G.b) s.heap H locs → lv_has ls 4 [(0, .ref x0), (1, .int x1)] → W p l e (rm_X8_depthOf (d9 + 1)) s m args below meth c H locs 0 0 (MQ below (gQ G (PI Φ)) args s (rm_X8_depthOf (d9 + 1)).cells (rm_X8_depthOf (d9 + 1)).slots (Ab G.b)) (F0 m 0 ls []) := by
  intro S H locs ls h hO hS hl
  unfold wX8_depthOf_b0 at h
  refine lv_aload_n C0.1 C0.2.1 dX8_depthOf_0 rfl (lv_at hl 0 rfl) ?_
  obtain ⟨i1, h⟩ := h
  obtain ⟨a2, ea2, h⟩ := h
  refine g8_7 C0 hO i1 ea2 tb_1335 dX8_depthOf_1 ?_
  refine lv_iload_n C0.1 C0.2.1 dX8_depthOf_4 rfl (lv_at hl 1 rfl) ?_
  obtain ⟨i3, h⟩ := h
  obtain ⟨e4, h⟩ := h
  refine r_iald C0 hO i3 e4 dX8_depthOf_5 ?_
  refine lv_istore_n C0.1 C0.2.1 dX8_depthOf_6 rfl hl (by decide) rfl (fun ls hl => ?_)
  refine lv_iload_n C0.1 C0.2.1 dX8_depthOf_7 rfl (lv_at hl 0 rfl) ?_
  refine lv_iconst (v := (-1)) C0.1 C0.2.1 dX8_depthOf_8 (by decide) ?_
  refine lv_icmp_ne (tgt := 14) C0.1 C0.2.1 dX8_depthOf_9 (by decide) (fun c5 => ?_) (fun c5 => ?_)
  · have h := h.1 c5
    refine lv_aload_n C0.1 C0.2.1 dX8_depthOf_14 rfl (lv_at hl 1 rfl) ?_
    refine lv_aload_n C0.1 C0.2.1 dX8_depthOf_15 rfl (lv_at hl 1 rfl) ?_
    obtain ⟨a6, ea6, h⟩ := h
    refine g8_10 C0 hO i1 ea6 tb_1338 dX8_depthOf_16 ?_
    refine lv_iload_n C0.1 C0.2.1 dX8_depthOf_19 rfl (lv_at hl 0 rfl) ?_
    obtain ⟨i7, h⟩ := h
    obtain ⟨e8, h⟩ := h
    refine r_iald C0 hO i7 e8 dX8_depthOf_20 ?_
    refine c_V C0 hO hS (ihr h) i1 (by decide) rfl rfl tb_1481 tb_1483 tb_42 tb_81 tb_1484 hd_X8_depthOf rfl ⟨⟨by simp only [rm_X8_depthOf]; omega, by simp only [rm_X8_depthOf]; omega⟩, Nat.le_refl _, Nat.le_refl _⟩ hl.1 rfl (Nat.le_of_ble_eq_true rfl) dX8_depthOf_21 (kI (fun r10 S9 H locs h hO hS => ?_))
    refine lv_istore_n C0.1 C0.2.1 dX8_depthOf_24 rfl hl (by decide) rfl (fun ls hl => ?_)
    refine lv_iconst (v := 1) C0.1 C0.2.1 dX8_depthOf_25 (by decide) ?_
    refine lv_aload_n C0.1 C0.2.1 dX8_depthOf_26 rfl (lv_at hl 2 rfl) ?_
    obtain ⟨i11, h⟩ := h
    obtain ⟨a12, ea12, h⟩ := h
    refine g8_11 C0 hO i11 ea12 tb_1339 dX8_depthOf_27 ?_
    refine lv_iload_n C0.1 C0.2.1 dX8_depthOf_30 rfl (lv_at hl 1 rfl) ?_
    obtain ⟨i13, h⟩ := h
    obtain ⟨e14, h⟩ := h
    refine r_iald C0 hO i13 e14 dX8_depthOf_31 ?_
    refine lv_iconst (v := (-1)) C0.1 C0.2.1 dX8_depthOf_32 (by decide) ?_
    refine lv_icmp_ne (tgt := 40) C0.1 C0.2.1 dX8_depthOf_33 (by decide) (fun c15 => ?_) (fun c15 => ?_)
    · have h := h.1 c15
      refine lv_iload_n C0.1 C0.2.1 dX8_depthOf_40 rfl (lv_at hl 0 rfl) ?_
      refine lv_aload_n C0.1 C0.2.1 dX8_depthOf_41 rfl (lv_at hl 2 rfl) ?_
      refine lv_aload_n C0.1 C0.2.1 dX8_depthOf_42 rfl (lv_at hl 2 rfl) ?_
      obtain ⟨a16, ea16, h⟩ := h
      refine g8_11 C0 hO i11 ea16 tb_1339 dX8_depthOf_43 ?_
      refine lv_iload_n C0.1 C0.2.1 dX8_depthOf_46 rfl (lv_at hl 1 rfl) ?_
      obtain ⟨i17, h⟩ := h
      obtain ⟨e18, h⟩ := h
      refine r_iald C0 hO i17 e18 dX8_depthOf_47 ?_
      refine c_V C0 hO hS (ihr h) i11 (by decide) rfl rfl tb_1481 tb_1483 tb_42 tb_81 tb_1484 hd_X8_depthOf rfl ⟨⟨by simp only [rm_X8_depthOf]; omega, by simp only [rm_X8_depthOf]; omega⟩, Nat.le_refl _, Nat.le_refl _⟩ hl.1 rfl (Nat.le_of_ble_eq_true rfl) dX8_depthOf_48 (kI (fun r20 S19 H locs h hO hS => ?_))
      refine va_mmax C0.1 C0.2.1 (C0.2.2.1.trans hl.1.symm) C0.2.2.2.1 (C0.2.2.2.2.1 _ tb_1485) (C0.2.2.2.2.1 _ tb_405) (C0.2.2.2.2.1 _ tb_94) (C0.2.2.2.2.1 _ tb_406) (by simp only [rm_X8_depthOf]; omega) (by show 1 + 13 ≤ _; simp only [rm_X8_depthOf]; omega) (Nat.le_refl _) (Nat.le_refl _) dX8_depthOf_51 ?_
      refine lv_iadd C0.1 C0.2.1 dX8_depthOf_54 ?_
      exact e_I C0 Y hO hS h (Nat.le_refl _) (Nat.le_refl _) dX8_depthOf_55
    · have h := h.2 c15
      refine lv_iload_n C0.1 C0.2.1 dX8_depthOf_36 rfl (lv_at hl 0 rfl) ?_
      refine lv_goto (tgt := 54) C0.1 C0.2.1 dX8_depthOf_37 (by decide) ?_
      refine lv_iadd C0.1 C0.2.1 dX8_depthOf_54 ?_
      exact e_I C0 Y hO hS h (Nat.le_refl _) (Nat.le_refl _) dX8_depthOf_55
  · have h := h.2 c5
    refine lv_iconst (v := 0) C0.1 C0.2.1 dX8_depthOf_12 (by decide) ?_
    exact e_I C0 Y hO hS h (Nat.le_refl _) (Nat.le_refl _) dX8_depthOf_13
def wX8_depthOf : Nat → Hp → Nat → Int32 → (Hp → Int32 → Prop) → Prop
  | 0 => fun _ _ _ _ => False
  | d + 1 => fun S x0 x1 Φ => wX8_depthOf_b0 (wX8_depthOf d) x0 x1 Φ S
set_option maxRecDepth 100000 in
theorem mX8_depthOf {l : Launch} {G : Gw} : ∀ (d : Nat) {S : Hp} {x0 : Nat} {x1 : Int32} {Φ : Hp → Int32 → Prop}, wX8_depthOf d S x0 x1 Φ → gM l yX8_depthOf cX8_depthOf 4 (some .int) (rm_X8_depthOf d) [.ref x0, .int x1] G S (PI Φ) := by
  intro d
  induction d with
  | zero => intro S x0 x1 Φ h; exact (h : False).elim
  | succ d9 ih =>
    intro S x0 x1 Φ h
    unfold gM
    refine Met.ofW (cc := cX8_depthOf) (maxL := 4) (ret := (some .int)) (by decide) rfl ?_
    intro p e s m args below meth c s₁ B hml hv
    obtain ⟨rfl, hw⟩ := hv
    obtain ⟨C0, Y, hO⟩ := mx_of B hml hw
    have hS : va_S (Ab G.b) s.heap s.heap [] := va_S.rf
    have hl := lv_entry ([.ref x0, .int x1]) (n := 4) (Nat.le_of_ble_eq_true rfl)
    rw [lg_entry_eq]
    generalize (lg_sl ([.ref x0, .int x1]) ++ List.replicate (4 - (lg_sl ([.ref x0, .int x1])).length) Slot.unset).toArray = ls at hl ⊢
    have hl : lv_has ls 4 [(0, .ref x0), (1, .int x1)] := hl
    exact bX8_depthOf_b0 C0 Y (fun h => ih h) S _ _ _ h hO hS hl

def rm_X8_heightOf (d : Nat) : Room := { frames := 1 + d, cells := 0, slots := 0, locals := 15 + d * 23 }
def wX8_heightOf_b52 (rec : Hp → Nat → Int32 → (Hp → Int32 → Prop) → Prop) (x0 : Nat) (x1 : Int32) (Φ : Hp → Int32 → Prop) (k4 : Hp → Int32 → Int32 → Prop) (S : Hp) (v3 : Int32) (z0 : Int32) : Prop := k4 S z0 (v3 + 1)
set_option maxHeartbeats 4000000 in
set_option maxRecDepth 100000 in
theorem bX8_heightOf_b52 {p : Program} {l : Launch} {e : Env} {s : State} {m : MethodId} {args : Array Value} {below : List Frame} {meth : Method} {c : Code} {G : Gw} {rec : Hp → Nat → Int32 → (Hp → Int32 → Prop) → Prop} {x0 : Nat} {x1 : Int32} {Φ : Hp → Int32 → Prop} (C0 : Mx p s m c cX8_heightOf 4 args yX8_heightOf.cls G) (Y : My meth (some .int)) {d9 : Nat} (ihr : ∀ {S : Hp} {x0 : Nat} {x1 : Int32} {Φ : Hp → Int32 → Prop}, rec S x0 x1 Φ → gM l yX8_heightOf cX8_heightOf 4 (some .int) (rm_X8_heightOf d9) [.ref x0, .int x1] G S (PI Φ)) {k4 : Hp → Int32 → Int32 → Prop} (hk4 : ∀ (S : Hp) (v2 : Int32) (v3 : Int32) (H : Heap) (locs : List Loc) (ls : Array Slot), k4 S v2 v3 → Ok G S H → va_S (Ab G.b) s.heap H locs → lv_has ls 4 [(0, .ref x0), (1, .int x1), (2, .int v2), (3, .int v3)] → W p l e (rm_X8_heightOf (d9 + 1)) s m args below meth c H locs 0 0 (MQ below (gQ G (PI Φ)) args s (rm_X8_heightOf (d9 + 1)).cells (rm_X8_heightOf (d9 + 1)).slots (Ab G.b)) (F0 m 4 ls [])) : ∀ (S : Hp) (v3 : Int32) (z0 : Int32) (H : Heap) (locs : List Loc) (ls : Array Slot), wX8_heightOf_b52 rec x0 x1 Φ k4 S v3 z0 → Ok G S H → va_S (Ab G.b) s.heap H locs → lv_has ls 4 [(0, .ref x0), (1, .int x1), (3, .int v3)] → W p l e (rm_X8_heightOf (d9 + 1)) s m args below meth c H locs 0 0 (MQ below (gQ G (PI Φ)) args s (rm_X8_heightOf (d9 + 1)).cells (rm_X8_heightOf (d9 + 1)).slots (Ab G.b)) (F0 m 52 ls [.int z0]) := by
  intro S v3 z0 H locs ls h hO hS hl
  unfold wX8_heightOf_b52 at h
  refine lv_istore_n C0.1 C0.2.1 dX8_heightOf_52 rfl hl (by decide) rfl (fun ls hl => ?_)
  refine lv_iinc (v := _ + 1) C0.1 C0.2.1 dX8_heightOf_53 hl (k := 3) rfl rfl (by decide) rfl (fun ls hl => ?_)
  refine lv_goto (tgt := 4) C0.1 C0.2.1 dX8_heightOf_56 (by decide) ?_
  exact hk4 _ _ _ _ _ _ h hO hS (lv_sub hl [2, 3, 1, 0] rfl)
def wX8_heightOf_b32 (rec : Hp → Nat → Int32 → (Hp → Int32 → Prop) → Prop) (x0 : Nat) (x1 : Int32) (Φ : Hp → Int32 → Prop) (k4 : Hp → Int32 → Int32 → Prop) (S : Hp) (v2 : Int32) (v3 : Int32) : Prop := isA S x0 8 ∧ ∃ a2, S.FR 524 x0 = some a2 ∧ isA S a2 21 ∧ vp_in v3 (S.N a2) ∧ rec S x0 (S.AI a2 v3.toNatClampNeg) (fun S5 r6 => wX8_heightOf_b52 rec x0 x1 Φ k4 S5 v3 (if v2 < (1 + r6) then (1 + r6) else v2))
set_option maxHeartbeats 4000000 in
set_option maxRecDepth 100000 in
theorem bX8_heightOf_b32 {p : Program} {l : Launch} {e : Env} {s : State} {m : MethodId} {args : Array Value} {below : List Frame} {meth : Method} {c : Code} {G : Gw} {rec : Hp → Nat → Int32 → (Hp → Int32 → Prop) → Prop} {x0 : Nat} {x1 : Int32} {Φ : Hp → Int32 → Prop} (C0 : Mx p s m c cX8_heightOf 4 args yX8_heightOf.cls G) (Y : My meth (some .int)) {d9 : Nat} (ihr : ∀ {S : Hp} {x0 : Nat} {x1 : Int32} {Φ : Hp → Int32 → Prop}, rec S x0 x1 Φ → gM l yX8_heightOf cX8_heightOf 4 (some .int) (rm_X8_heightOf d9) [.ref x0, .int x1] G S (PI Φ)) {k4 : Hp → Int32 → Int32 → Prop} (hk4 : ∀ (S : Hp) (v2 : Int32) (v3 : Int32) (H : Heap) (locs : List Loc) (ls : Array Slot), k4 S v2 v3 → Ok G S H → va_S (Ab G.b) s.heap H locs → lv_has ls 4 [(0, .ref x0), (1, .int x1), (2, .int v2), (3, .int v3)] → W p l e (rm_X8_heightOf (d9 + 1)) s m args below meth c H locs 0 0 (MQ below (gQ G (PI Φ)) args s (rm_X8_heightOf (d9 + 1)).cells (rm_X8_heightOf (d9 + 1)).slots (Ab G.b)) (F0 m 4 ls [])) : ∀ (S : Hp) (v2 : Int32) (v3 : Int32) (H : Heap) (locs : List Loc) (ls : Array Slot), wX8_heightOf_b32 rec x0 x1 Φ k4 S v2 v3 → Ok G S H → va_S (Ab G.b) s.heap H locs → lv_has ls 4 [(0, .ref x0), (1, .int x1), (2, .int v2), (3, .int v3)] → W p l e (rm_X8_heightOf (d9 + 1)) s m args below meth c H locs 0 0 (MQ below (gQ G (PI Φ)) args s (rm_X8_heightOf (d9 + 1)).cells (rm_X8_heightOf (d9 + 1)).slots (Ab G.b)) (F0 m 32 ls []) := by
  intro S v2 v3 H locs ls h hO hS hl
  unfold wX8_heightOf_b32 at h
  refine lv_iload_n C0.1 C0.2.1 dX8_heightOf_32 rfl (lv_at hl 2 rfl) ?_
  refine lv_iconst (v := 1) C0.1 C0.2.1 dX8_heightOf_33 (by decide) ?_
  refine lv_aload_n C0.1 C0.2.1 dX8_heightOf_34 rfl (lv_at hl 0 rfl) ?_
  refine lv_aload_n C0.1 C0.2.1 dX8_heightOf_35 rfl (lv_at hl 0 rfl) ?_
  obtain ⟨i1, h⟩ := h
  obtain ⟨a2, ea2, h⟩ := h
  refine g8_12 C0 hO i1 ea2 tb_1340 dX8_heightOf_36 ?_
  refine lv_iload_n C0.1 C0.2.1 dX8_heightOf_39 rfl (lv_at hl 3 rfl) ?_
  obtain ⟨i3, h⟩ := h
  obtain ⟨e4, h⟩ := h
  refine r_iald C0 hO i3 e4 dX8_heightOf_40 ?_
  refine c_V C0 hO hS (ihr h) i1 (by decide) rfl rfl tb_1486 tb_1488 tb_43 tb_81 tb_1489 hd_X8_heightOf rfl ⟨⟨by simp only [rm_X8_heightOf]; omega, by simp only [rm_X8_heightOf]; omega⟩, Nat.le_refl _, Nat.le_refl _⟩ hl.1 rfl (Nat.le_of_ble_eq_true rfl) dX8_heightOf_41 (kI (fun r6 S5 H locs h hO hS => ?_))
  refine lv_iadd C0.1 C0.2.1 dX8_heightOf_44 ?_
  refine va_mmax C0.1 C0.2.1 (C0.2.2.1.trans hl.1.symm) C0.2.2.2.1 (C0.2.2.2.2.1 _ tb_1485) (C0.2.2.2.2.1 _ tb_405) (C0.2.2.2.2.1 _ tb_94) (C0.2.2.2.2.1 _ tb_406) (by simp only [rm_X8_heightOf]; omega) (by show 0 + 13 ≤ _; simp only [rm_X8_heightOf]; omega) (Nat.le_refl _) (Nat.le_refl _) dX8_heightOf_45 ?_
  refine lv_goto (tgt := 52) C0.1 C0.2.1 dX8_heightOf_48 (by decide) ?_
  exact bX8_heightOf_b52 C0 Y ihr hk4 _ _ _ _ _ _ h hO hS (lv_sub hl [0, 1, 3] rfl)
def wX8_heightOf_b4 (rec : Hp → Nat → Int32 → (Hp → Int32 → Prop) → Prop) (x0 : Nat) (x1 : Int32) (Φ : Hp → Int32 → Prop) (k4 : Hp → Int32 → Int32 → Prop) (S : Hp) (v2 : Int32) (v3 : Int32) : Prop := isA S x0 8 ∧ (((S.FI 544 x0) ≤ v3 → Φ S v2) ∧ (¬ ((S.FI 544 x0) ≤ v3) → ∃ a3, S.FR 522 x0 = some a3 ∧ isA S a3 21 ∧ vp_in v3 (S.N a3) ∧ (((S.AI a3 v3.toNatClampNeg) = x1 → wX8_heightOf_b32 rec x0 x1 Φ k4 S v2 v3) ∧ (¬ ((S.AI a3 v3.toNatClampNeg) = x1) → ∃ a7, S.FR 523 x0 = some a7 ∧ isA S a7 21 ∧ vp_in v3 (S.N a7) ∧ ((¬ (S.AI a7 v3.toNatClampNeg) = x1 → wX8_heightOf_b52 rec x0 x1 Φ k4 S v3 v2) ∧ ((S.AI a7 v3.toNatClampNeg) = x1 → wX8_heightOf_b32 rec x0 x1 Φ k4 S v2 v3))))))
set_option maxHeartbeats 4000000 in
set_option maxRecDepth 100000 in
theorem bX8_heightOf_b4 {p : Program} {l : Launch} {e : Env} {s : State} {m : MethodId} {args : Array Value} {below : List Frame} {meth : Method} {c : Code} {G : Gw} {rec : Hp → Nat → Int32 → (Hp → Int32 → Prop) → Prop} {x0 : Nat} {x1 : Int32} {Φ : Hp → Int32 → Prop} (C0 : Mx p s m c cX8_heightOf 4 args yX8_heightOf.cls G) (Y : My meth (some .int)) {d9 : Nat} (ihr : ∀ {S : Hp} {x0 : Nat} {x1 : Int32} {Φ : Hp → Int32 → Prop}, rec S x0 x1 Φ → gM l yX8_heightOf cX8_heightOf 4 (some .int) (rm_X8_heightOf d9) [.ref x0, .int x1] G S (PI Φ)) {k4 : Hp → Int32 → Int32 → Prop} (hk4 : ∀ (S : Hp) (v2 : Int32) (v3 : Int32) (H : Heap) (locs : List Loc) (ls : Array Slot), k4 S v2 v3 → Ok G S H → va_S (Ab G.b) s.heap H locs → lv_has ls 4 [(0, .ref x0), (1, .int x1), (2, .int v2), (3, .int v3)] → W p l e (rm_X8_heightOf (d9 + 1)) s m args below meth c H locs 0 0 (MQ below (gQ G (PI Φ)) args s (rm_X8_heightOf (d9 + 1)).cells (rm_X8_heightOf (d9 + 1)).slots (Ab G.b)) (F0 m 4 ls [])) : ∀ (S : Hp) (v2 : Int32) (v3 : Int32) (H : Heap) (locs : List Loc) (ls : Array Slot), wX8_heightOf_b4 rec x0 x1 Φ k4 S v2 v3 → Ok G S H → va_S (Ab G.b) s.heap H locs → lv_has ls 4 [(0, .ref x0), (1, .int x1), (2, .int v2), (3, .int v3)] → W p l e (rm_X8_heightOf (d9 + 1)) s m args below meth c H locs 0 0 (MQ below (gQ G (PI Φ)) args s (rm_X8_heightOf (d9 + 1)).cells (rm_X8_heightOf (d9 + 1)).slots (Ab G.b)) (F0 m 4 ls []) := by
  intro S v2 v3 H locs ls h hO hS hl
  unfold wX8_heightOf_b4 at h
  refine lv_iload_n C0.1 C0.2.1 dX8_heightOf_4 rfl (lv_at hl 3 rfl) ?_
  refine lv_aload_n C0.1 C0.2.1 dX8_heightOf_5 rfl (lv_at hl 0 rfl) ?_
  obtain ⟨i1, h⟩ := h
  refine g8_32 C0 hO i1 tb_1360 dX8_heightOf_6 ?_
  refine lv_icmp_ge (tgt := 59) C0.1 C0.2.1 dX8_heightOf_9 (by decide) (fun c2 => ?_) (fun c2 => ?_)
  · have h := h.1 c2
    refine lv_iload_n C0.1 C0.2.1 dX8_heightOf_59 rfl (lv_at hl 2 rfl) ?_
    exact e_I C0 Y hO hS h (Nat.le_refl _) (Nat.le_refl _) dX8_heightOf_60
  · have h := h.2 c2
    refine lv_aload_n C0.1 C0.2.1 dX8_heightOf_12 rfl (lv_at hl 0 rfl) ?_
    obtain ⟨a3, ea3, h⟩ := h
    refine g8_10 C0 hO i1 ea3 tb_1338 dX8_heightOf_13 ?_
    refine lv_iload_n C0.1 C0.2.1 dX8_heightOf_16 rfl (lv_at hl 3 rfl) ?_
    obtain ⟨i4, h⟩ := h
    obtain ⟨e5, h⟩ := h
    refine r_iald C0 hO i4 e5 dX8_heightOf_17 ?_
    refine lv_iload_n C0.1 C0.2.1 dX8_heightOf_18 rfl (lv_at hl 1 rfl) ?_
    refine lv_icmp_eq (tgt := 32) C0.1 C0.2.1 dX8_heightOf_19 (by decide) (fun c6 => ?_) (fun c6 => ?_)
    · have h := h.1 c6
      exact bX8_heightOf_b32 C0 Y ihr hk4 _ _ _ _ _ _ h hO hS (lv_sub hl [0, 1, 2, 3] rfl)
    · have h := h.2 c6
      refine lv_aload_n C0.1 C0.2.1 dX8_heightOf_22 rfl (lv_at hl 0 rfl) ?_
      obtain ⟨a7, ea7, h⟩ := h
      refine g8_11 C0 hO i1 ea7 tb_1339 dX8_heightOf_23 ?_
      refine lv_iload_n C0.1 C0.2.1 dX8_heightOf_26 rfl (lv_at hl 3 rfl) ?_
      obtain ⟨i8, h⟩ := h
      obtain ⟨e9, h⟩ := h
      refine r_iald C0 hO i8 e9 dX8_heightOf_27 ?_
      refine lv_iload_n C0.1 C0.2.1 dX8_heightOf_28 rfl (lv_at hl 1 rfl) ?_
      refine lv_icmp_ne (tgt := 51) C0.1 C0.2.1 dX8_heightOf_29 (by decide) (fun c10 => ?_) (fun c10 => ?_)
      · have h := h.1 c10
        refine lv_iload_n C0.1 C0.2.1 dX8_heightOf_51 rfl (lv_at hl 2 rfl) ?_
        exact bX8_heightOf_b52 C0 Y ihr hk4 _ _ _ _ _ _ h hO hS (lv_sub hl [0, 1, 3] rfl)
      · have h := h.2 c10
        exact bX8_heightOf_b32 C0 Y ihr hk4 _ _ _ _ _ _ h hO hS (lv_sub hl [0, 1, 2, 3] rfl)
set_option maxHeartbeats 4000000 in
set_option maxRecDepth 100000 in
theorem lX8_heightOf_b4 {p : Program} {l : Launch} {e : Env} {s : State} {m : MethodId} {args : Array Value} {below : List Frame} {meth : Method} {c : Code} {G : Gw} {rec : Hp → Nat → Int32 → (Hp → Int32 → Prop) → Prop} {x0 : Nat} {x1 : Int32} {Φ : Hp → Int32 → Prop} (C0 : Mx p s m c cX8_heightOf 4 args yX8_heightOf.cls G) (Y : My meth (some .int)) {d9 : Nat} (ihr : ∀ {S : Hp} {x0 : Nat} {x1 : Int32} {Φ : Hp → Int32 → Prop}, rec S x0 x1 Φ → gM l yX8_heightOf cX8_heightOf 4 (some .int) (rm_X8_heightOf d9) [.ref x0, .int x1] G S (PI Φ))  : ∀ n9 : Nat, ∀ (S : Hp) (v2 : Int32) (v3 : Int32) (H : Heap) (locs : List Loc) (ls : Array Slot), it3 (wX8_heightOf_b4 rec x0 x1 Φ) n9 S v2 v3 → Ok G S H → va_S (Ab G.b) s.heap H locs → lv_has ls 4 [(0, .ref x0), (1, .int x1), (2, .int v2), (3, .int v3)] → W p l e (rm_X8_heightOf (d9 + 1)) s m args below meth c H locs 0 0 (MQ below (gQ G (PI Φ)) args s (rm_X8_heightOf (d9 + 1)).cells (rm_X8_heightOf (d9 + 1)).slots (Ab G.b)) (F0 m 4 ls []) := by
  intro n9
  induction n9 with
  | zero => intro S v2 v3 H locs ls h; exact (h : False).elim
  | succ n9 ih => intro S v2 v3 H locs ls h hO hS hl; exact bX8_heightOf_b4 C0 Y ihr ih S v2 v3 H locs ls h hO hS hl
def wX8_heightOf_b0 (rec : Hp → Nat → Int32 → (Hp → Int32 → Prop) → Prop) (x0 : Nat) (x1 : Int32) (Φ : Hp → Int32 → Prop) (S : Hp) : Prop := ∃ n, it3 (wX8_heightOf_b4 rec x0 x1 Φ) n S 0 0
set_option maxHeartbeats 4000000 in
set_option maxRecDepth 100000 in
theorem bX8_heightOf_b0 {p : Program} {l : Launch} {e : Env} {s : State} {m : MethodId} {args : Array Value} {below : List Frame} {meth : Method} {c : Code} {G : Gw} {rec : Hp → Nat → Int32 → (Hp → Int32 → Prop) → Prop} {x0 : Nat} {x1 : Int32} {Φ : Hp → Int32 → Prop} (C0 : Mx p s m c cX8_heightOf 4 args yX8_heightOf.cls G) (Y : My meth (some .int)) {d9 : Nat} (ihr : ∀ {S : Hp} {x0 : Nat} {x1 : Int32} {Φ : Hp → Int32 → Prop}, rec S x0 x1 Φ → gM l yX8_heightOf cX8_heightOf 4 (some .int) (rm_X8_heightOf d9) [.ref x0, .int x1] G S (PI Φ))  : ∀ (S : Hp) (H : Heap) (locs : List Loc) (ls : Array Slot), wX8_heightOf_b0 rec x0 x1 Φ S → Ok G S H → va_S (Ab G.b) s.heap H locs → lv_has ls 4 [(0, .ref x0), (1, .int x1)] → W p l e (rm_X8_heightOf (d9 + 1)) s m args below meth c H locs 0 0 (MQ below (gQ G (PI Φ)) args s (rm_X8_heightOf (d9 + 1)).cells (rm_X8_heightOf (d9 + 1)).slots (Ab G.b)) (F0 m 0 ls []) := by
  intro S H locs ls h hO hS hl
  unfold wX8_heightOf_b0 at h
  refine lv_iconst (v := 0) C0.1 C0.2.1 dX8_heightOf_0 (by decide) ?_
  refine lv_istore_n C0.1 C0.2.1 dX8_heightOf_1 rfl hl (by decide) rfl (fun ls hl => ?_)
  refine lv_iconst (v := 0) C0.1 C0.2.1 dX8_heightOf_2 (by decide) ?_
  refine lv_istore_n C0.1 C0.2.1 dX8_heightOf_3 rfl hl (by decide) rfl (fun ls hl => ?_)
  obtain ⟨n9, h⟩ := h
  exact lX8_heightOf_b4 C0 Y ihr n9 _ _ _ _ _ _ h hO hS (lv_sub hl [2, 3, 1, 0] rfl)
def wX8_heightOf : Nat → Hp → Nat → Int32 → (Hp → Int32 → Prop) → Prop
  | 0 => fun _ _ _ _ => False
  | d + 1 => fun S x0 x1 Φ => wX8_heightOf_b0 (wX8_heightOf d) x0 x1 Φ S
set_option maxRecDepth 100000 in
theorem mX8_heightOf {l : Launch} {G : Gw} : ∀ (d : Nat) {S : Hp} {x0 : Nat} {x1 : Int32} {Φ : Hp → Int32 → Prop}, wX8_heightOf d S x0 x1 Φ → gM l yX8_heightOf cX8_heightOf 4 (some .int) (rm_X8_heightOf d) [.ref x0, .int x1] G S (PI Φ) := by
  intro d
  induction d with
  | zero => intro S x0 x1 Φ h; exact (h : False).elim
  | succ d9 ih =>
    intro S x0 x1 Φ h
    unfold gM
    refine Met.ofW (cc := cX8_heightOf) (maxL := 4) (ret := (some .int)) (by decide) rfl ?_
    intro p e s m args below meth c s₁ B hml hv
    obtain ⟨rfl, hw⟩ := hv
    obtain ⟨C0, Y, hO⟩ := mx_of B hml hw
    have hS : va_S (Ab G.b) s.heap s.heap [] := va_S.rf
    have hl := lv_entry ([.ref x0, .int x1]) (n := 4) (Nat.le_of_ble_eq_true rfl)
    rw [lg_entry_eq]
    generalize (lg_sl ([.ref x0, .int x1]) ++ List.replicate (4 - (lg_sl ([.ref x0, .int x1])).length) Slot.unset).toArray = ls at hl ⊢
    have hl : lv_has ls 4 [(0, .ref x0), (1, .int x1)] := hl
    exact bX8_heightOf_b0 C0 Y (fun h => ih h) S _ _ _ h hO hS hl

def rm_X8_isShallow : Room := { frames := 22, cells := 0, slots := 0, locals := 499 }
def wX8_isShallow_b26 (x0 : Nat) (x1 : Int32) (x2 : Int32) (x3 : Int32) (Φ : Hp → Int32 → Prop) (S : Hp) (z0 : Int32) : Prop := isA S x0 8 ∧ wX8_heightOf 20 S x0 x3 (fun S1 r2 => ((3 < ((z0 + 1) + r2) → Φ S1 0) ∧ (¬ (3 < ((z0 + 1) + r2)) → Φ S1 1)))
set_option maxHeartbeats 4000000 in
set_option maxRecDepth 100000 in
theorem bX8_isShallow_b26 {p : Program} {l : Launch} {e : Env} {s : State} {m : MethodId} {args : Array Value} {below : List Frame} {meth : Method} {c : Code} {G : Gw} {x0 : Nat} {x1 : Int32} {x2 : Int32} {x3 : Int32} {Φ : Hp → Int32 → Prop} (C0 : Mx p s m c cX8_isShallow 5 args yX8_isShallow.cls G) (Y : My meth (some .boolean))  : ∀ (S : Hp) (z0 : Int32) (H : Heap) (locs : List Loc) (ls : Array Slot), wX8_isShallow_b26 x0 x1 x2 x3 Φ S z0 → Ok G S H → va_S (Ab G.b) s.heap H locs → lv_has ls 5 [(0, .ref x0), (1, .int x1), (2, .int x2), (3, .int x3)] → W p l e rm_X8_isShallow s m args below meth c H locs 0 0 (MQ below (gQ G (PI Φ)) args s rm_X8_isShallow.cells rm_X8_isShallow.slots (Ab G.b)) (F0 m 26 ls [.int z0]) := by
  intro S z0 H locs ls h hO hS hl
  unfold wX8_isShallow_b26 at h
  refine lv_istore C0.1 C0.2.1 dX8_isShallow_26 hl (by decide) rfl (fun ls hl => ?_)
  refine lv_iload C0.1 C0.2.1 dX8_isShallow_28 (lv_at hl 0 rfl) ?_
  refine lv_iconst (v := 1) C0.1 C0.2.1 dX8_isShallow_30 (by decide) ?_
  refine lv_iadd C0.1 C0.2.1 dX8_isShallow_31 ?_
  refine lv_aload_n C0.1 C0.2.1 dX8_isShallow_32 rfl (lv_at hl 1 rfl) ?_
  refine lv_iload_n C0.1 C0.2.1 dX8_isShallow_33 rfl (lv_at hl 4 rfl) ?_
  obtain ⟨i3, h⟩ := h
  refine c_V C0 hO hS (mX8_heightOf 20 h) i3 (by decide) rfl rfl tb_1486 tb_1488 tb_43 tb_81 tb_1489 hd_X8_heightOf rfl ⟨⟨by decide, by decide⟩, by decide, by decide⟩ hl.1 rfl (Nat.le_of_ble_eq_true rfl) dX8_isShallow_34 (kI (fun r2 S1 H locs h hO hS => ?_))
  refine lv_iadd C0.1 C0.2.1 dX8_isShallow_37 ?_
  refine lv_iconst (v := 3) C0.1 C0.2.1 dX8_isShallow_38 (by decide) ?_
  refine lv_icmp_gt (tgt := 46) C0.1 C0.2.1 dX8_isShallow_39 (by decide) (fun c4 => ?_) (fun c4 => ?_)
  · have h := h.1 c4
    refine lv_iconst (v := 0) C0.1 C0.2.1 dX8_isShallow_46 (by decide) ?_
    exact e_Z C0 Y hO hS rfl h (Nat.le_refl _) (Nat.le_refl _) dX8_isShallow_47
  · have h := h.2 c4
    refine lv_iconst (v := 1) C0.1 C0.2.1 dX8_isShallow_42 (by decide) ?_
    refine lv_goto (tgt := 47) C0.1 C0.2.1 dX8_isShallow_43 (by decide) ?_
    exact e_Z C0 Y hO hS rfl h (Nat.le_refl _) (Nat.le_refl _) dX8_isShallow_47
def wX8_isShallow_b0 (x0 : Nat) (x1 : Int32) (x2 : Int32) (x3 : Int32) (Φ : Hp → Int32 → Prop) (S : Hp) : Prop := ((¬ x2 = (-1) → isA S x0 8 ∧ wX8_depthOf 20 S x0 x1 (fun S2 r3 => isA S2 x0 8 ∧ wX8_depthOf 20 S2 x0 x2 (fun S5 r6 => wX8_isShallow_b26 x0 x1 x2 x3 Φ S5 (if r3 < r6 then r6 else r3)))) ∧ (x2 = (-1) → isA S x0 8 ∧ wX8_depthOf 20 S x0 x1 (fun S8 r9 => wX8_isShallow_b26 x0 x1 x2 x3 Φ S8 r9)))
set_option maxHeartbeats 4000000 in
set_option maxRecDepth 100000 in
theorem bX8_isShallow_b0 {p : Program} {l : Launch} {e : Env} {s : State} {m : MethodId} {args : Array Value} {below : List Frame} {meth : Method} {c : Code} {G : Gw} {x0 : Nat} {x1 : Int32} {x2 : Int32} {x3 : Int32} {Φ : Hp → Int32 → Prop} (C0 : Mx p s m c cX8_isShallow 5 args yX8_isShallow.cls G) (Y : My meth (some .boolean))  : ∀ (S : Hp) (H : Heap) (locs : List Loc) (ls : Array Slot), wX8_isShallow_b0 x0 x1 x2 x3 Φ S → Ok G S H → va_S (Ab G.b) s.heap H locs → lv_has ls 5 [(0, .ref x0), (1, .int x1), (2, .int x2), (3, .int x3)] → W p l e rm_X8_isShallow s m args below meth c H locs 0 0 (MQ below (gQ G (PI Φ)) args s rm_X8_isShallow.cells rm_X8_isShallow.slots (Ab G.b)) (F0 m 0 ls []) := by
  intro S H locs ls h hO hS hl
  unfold wX8_isShallow_b0 at h
  refine lv_iload_n C0.1 C0.2.1 dX8_isShallow_0 rfl (lv_at hl 2 rfl) ?_
  refine lv_iconst (v := (-1)) C0.1 C0.2.1 dX8_isShallow_1 (by decide) ?_
  refine lv_icmp_ne (tgt := 13) C0.1 C0.2.1 dX8_isShallow_2 (by decide) (fun c1 => ?_) (fun c1 => ?_)
  · have h := h.1 c1
    refine lv_aload_n C0.1 C0.2.1 dX8_isShallow_13 rfl (lv_at hl 0 rfl) ?_
    refine lv_iload_n C0.1 C0.2.1 dX8_isShallow_14 rfl (lv_at hl 1 rfl) ?_
    obtain ⟨i4, h⟩ := h
    refine c_V C0 hO hS (mX8_depthOf 20 h) i4 (by decide) rfl rfl tb_1481 tb_1483 tb_42 tb_81 tb_1484 hd_X8_depthOf rfl ⟨⟨by decide, by decide⟩, by decide, by decide⟩ hl.1 rfl (Nat.le_of_ble_eq_true rfl) dX8_isShallow_15 (kI (fun r3 S2 H locs h hO hS => ?_))
    refine lv_aload_n C0.1 C0.2.1 dX8_isShallow_18 rfl (lv_at hl 0 rfl) ?_
    refine lv_iload_n C0.1 C0.2.1 dX8_isShallow_19 rfl (lv_at hl 2 rfl) ?_
    obtain ⟨i7, h⟩ := h
    refine c_V C0 hO hS (mX8_depthOf 20 h) i7 (by decide) rfl rfl tb_1481 tb_1483 tb_42 tb_81 tb_1484 hd_X8_depthOf rfl ⟨⟨by decide, by decide⟩, by decide, by decide⟩ hl.1 rfl (Nat.le_of_ble_eq_true rfl) dX8_isShallow_20 (kI (fun r6 S5 H locs h hO hS => ?_))
    refine va_mmax C0.1 C0.2.1 (C0.2.2.1.trans hl.1.symm) C0.2.2.2.1 (C0.2.2.2.2.1 _ tb_1485) (C0.2.2.2.2.1 _ tb_405) (C0.2.2.2.2.1 _ tb_94) (C0.2.2.2.2.1 _ tb_406) (Nat.le_of_ble_eq_true rfl) (Nat.le_of_ble_eq_true rfl) (by decide) (by decide) dX8_isShallow_23 ?_
    exact bX8_isShallow_b26 C0 Y _ _ _ _ _ h hO hS (lv_sub hl [0, 1, 2, 3] rfl)
  · have h := h.2 c1
    refine lv_aload_n C0.1 C0.2.1 dX8_isShallow_5 rfl (lv_at hl 0 rfl) ?_
    refine lv_iload_n C0.1 C0.2.1 dX8_isShallow_6 rfl (lv_at hl 1 rfl) ?_
    obtain ⟨i10, h⟩ := h
    refine c_V C0 hO hS (mX8_depthOf 20 h) i10 (by decide) rfl rfl tb_1481 tb_1483 tb_42 tb_81 tb_1484 hd_X8_depthOf rfl ⟨⟨by decide, by decide⟩, by decide, by decide⟩ hl.1 rfl (Nat.le_of_ble_eq_true rfl) dX8_isShallow_7 (kI (fun r9 S8 H locs h hO hS => ?_))
    refine lv_goto (tgt := 26) C0.1 C0.2.1 dX8_isShallow_10 (by decide) ?_
    exact bX8_isShallow_b26 C0 Y _ _ _ _ _ h hO hS (lv_sub hl [0, 1, 2, 3] rfl)
def wX8_isShallow (S : Hp) (x0 : Nat) (x1 : Int32) (x2 : Int32) (x3 : Int32) (Φ : Hp → Int32 → Prop) : Prop := wX8_isShallow_b0 x0 x1 x2 x3 Φ S
set_option maxRecDepth 100000 in
theorem mX8_isShallow {l : Launch} {G : Gw} {S : Hp} {x0 : Nat} {x1 : Int32} {x2 : Int32} {x3 : Int32} {Φ : Hp → Int32 → Prop} (h : wX8_isShallow S x0 x1 x2 x3 Φ) : gM l yX8_isShallow cX8_isShallow 5 (some .boolean) rm_X8_isShallow [.ref x0, .int x1, .int x2, .int x3] G S (PI Φ) := by
  unfold gM
  refine Met.ofW (cc := cX8_isShallow) (maxL := 5) (ret := (some .boolean)) (by decide) rfl ?_
  intro p e s m args below meth c s₁ B hml hv
  obtain ⟨rfl, hw⟩ := hv
  obtain ⟨C0, Y, hO⟩ := mx_of B hml hw
  have hS : va_S (Ab G.b) s.heap s.heap [] := va_S.rf
  have hl := lv_entry ([.ref x0, .int x1, .int x2, .int x3]) (n := 5) (Nat.le_of_ble_eq_true rfl)
  rw [lg_entry_eq]
  generalize (lg_sl ([.ref x0, .int x1, .int x2, .int x3]) ++ List.replicate (5 - (lg_sl ([.ref x0, .int x1, .int x2, .int x3])).length) Slot.unset).toArray = ls at hl ⊢
  have hl : lv_has ls 5 [(0, .ref x0), (1, .int x1), (2, .int x2), (3, .int x3)] := hl
  exact bX8_isShallow_b0 C0 Y S _ _ _ h hO hS hl

def rm_X8_isAdded : Room := { frames := 23, cells := 0, slots := 0, locals := 523 }
def wX8_isAdded_b201 (x0 : Nat) (x1 : Int32) (x2 : Int32) (x3 : Int32) (x4 : Int32) (x5 : Int32) (x6 : Int32) (Φ : Hp → Int32 → Prop) (k175 : Hp → Int32 → Int32 → Prop) (S : Hp) (v9 : Int32) (z0 : Int32) (z1 : Int32) : Prop := k175 S (z0 &&& z1) (v9 + 1)
set_option maxHeartbeats 4000000 in
set_option maxRecDepth 100000 in
theorem bX8_isAdded_b201 {p : Program} {l : Launch} {e : Env} {s : State} {m : MethodId} {args : Array Value} {below : List Frame} {meth : Method} {c : Code} {G : Gw} {x0 : Nat} {x1 : Int32} {x2 : Int32} {x3 : Int32} {x4 : Int32} {x5 : Int32} {x6 : Int32} {Φ : Hp → Int32 → Prop} (C0 : Mx p s m c cX8_isAdded 10 args yX8_isAdded.cls G) (Y : My meth (some .boolean)) {k175 : Hp → Int32 → Int32 → Prop} (hk175 : ∀ (S : Hp) (v8 : Int32) (v9 : Int32) (H : Heap) (locs : List Loc) (ls : Array Slot), k175 S v8 v9 → Ok G S H → va_S (Ab G.b) s.heap H locs → lv_has ls 10 [(0, .ref x0), (1, .int x1), (2, .int x2), (3, .int x3), (4, .int x4), (5, .int x5), (6, .int x6), (8, .int v8), (9, .int v9)] → W p l e rm_X8_isAdded s m args below meth c H locs 0 0 (MQ below (gQ G (PI Φ)) args s rm_X8_isAdded.cells rm_X8_isAdded.slots (Ab G.b)) (F0 m 175 ls [])) : ∀ (S : Hp) (v9 : Int32) (z0 : Int32) (z1 : Int32) (H : Heap) (locs : List Loc) (ls : Array Slot), wX8_isAdded_b201 x0 x1 x2 x3 x4 x5 x6 Φ k175 S v9 z0 z1 → Ok G S H → va_S (Ab G.b) s.heap H locs → lv_has ls 10 [(0, .ref x0), (1, .int x1), (2, .int x2), (3, .int x3), (4, .int x4), (5, .int x5), (6, .int x6), (9, .int v9)] → W p l e rm_X8_isAdded s m args below meth c H locs 0 0 (MQ below (gQ G (PI Φ)) args s rm_X8_isAdded.cells rm_X8_isAdded.slots (Ab G.b)) (F0 m 201 ls [.int z1, .int z0]) := by
  intro S v9 z0 z1 H locs ls h hO hS hl
  unfold wX8_isAdded_b201 at h
  refine lv_iand C0.1 C0.2.1 dX8_isAdded_201 ?_
  refine lv_istore C0.1 C0.2.1 dX8_isAdded_202 hl (by decide) rfl (fun ls hl => ?_)
  refine lv_iinc (v := _ + 1) C0.1 C0.2.1 dX8_isAdded_204 hl (k := 8) rfl rfl (by decide) rfl (fun ls hl => ?_)
  refine lv_goto (tgt := 175) C0.1 C0.2.1 dX8_isAdded_207 (by decide) ?_
  exact hk175 _ _ _ _ _ _ h hO hS (lv_sub hl [2, 3, 4, 5, 6, 7, 8, 1, 0] rfl)
def wX8_isAdded_b175 (x0 : Nat) (x1 : Int32) (x2 : Int32) (x3 : Int32) (x4 : Int32) (x5 : Int32) (x6 : Int32) (Φ : Hp → Int32 → Prop) (k175 : Hp → Int32 → Int32 → Prop) (S : Hp) (v8 : Int32) (v9 : Int32) : Prop := isA S x0 8 ∧ (((S.FI 543 x0) ≤ v9 → ((¬ v8 = 0 → narrow .boolean (.int v8) = .int v8 ∧ Φ S v8) ∧ (v8 = 0 → ∀ S4, S4 = S.setFI 544 x0 ((S.FI 544 x0) - 1) → ∃ a5, S4.FR 519 x0 = some a5 ∧ isA S4 a5 21 ∧ vp_in x4 (S4.N a5) ∧ ∀ S8, S8 = S4.setAI a5 x4.toNatClampNeg (-1) → narrow .boolean (.int v8) = .int v8 ∧ Φ S8 v8))) ∧ (¬ ((S.FI 543 x0) ≤ v9) → wX8_depthOf 20 S x0 v9 (fun S9 r10 => ((3 < r10 → wX8_isAdded_b201 x0 x1 x2 x3 x4 x5 x6 Φ k175 S9 v9 v8 0) ∧ (¬ (3 < r10) → wX8_isAdded_b201 x0 x1 x2 x3 x4 x5 x6 Φ k175 S9 v9 v8 1)))))
set_option maxHeartbeats 4000000 in
set_option maxRecDepth 100000 in
theorem bX8_isAdded_b175 {p : Program} {l : Launch} {e : Env} {s : State} {m : MethodId} {args : Array Value} {below : List Frame} {meth : Method} {c : Code} {G : Gw} {x0 : Nat} {x1 : Int32} {x2 : Int32} {x3 : Int32} {x4 : Int32} {x5 : Int32} {x6 : Int32} {Φ : Hp → Int32 → Prop} (C0 : Mx p s m c cX8_isAdded 10 args yX8_isAdded.cls G) (Y : My meth (some .boolean)) {k175 : Hp → Int32 → Int32 → Prop} (hk175 : ∀ (S : Hp) (v8 : Int32) (v9 : Int32) (H : Heap) (locs : List Loc) (ls : Array Slot), k175 S v8 v9 → Ok G S H → va_S (Ab G.b) s.heap H locs → lv_has ls 10 [(0, .ref x0), (1, .int x1), (2, .int x2), (3, .int x3), (4, .int x4), (5, .int x5), (6, .int x6), (8, .int v8), (9, .int v9)] → W p l e rm_X8_isAdded s m args below meth c H locs 0 0 (MQ below (gQ G (PI Φ)) args s rm_X8_isAdded.cells rm_X8_isAdded.slots (Ab G.b)) (F0 m 175 ls [])) : ∀ (S : Hp) (v8 : Int32) (v9 : Int32) (H : Heap) (locs : List Loc) (ls : Array Slot), wX8_isAdded_b175 x0 x1 x2 x3 x4 x5 x6 Φ k175 S v8 v9 → Ok G S H → va_S (Ab G.b) s.heap H locs → lv_has ls 10 [(0, .ref x0), (1, .int x1), (2, .int x2), (3, .int x3), (4, .int x4), (5, .int x5), (6, .int x6), (8, .int v8), (9, .int v9)] → W p l e rm_X8_isAdded s m args below meth c H locs 0 0 (MQ below (gQ G (PI Φ)) args s rm_X8_isAdded.cells rm_X8_isAdded.slots (Ab G.b)) (F0 m 175 ls []) := by
  intro S v8 v9 H locs ls h hO hS hl
  unfold wX8_isAdded_b175 at h
  refine lv_iload C0.1 C0.2.1 dX8_isAdded_175 (lv_at hl 8 rfl) ?_
  refine lv_aload_n C0.1 C0.2.1 dX8_isAdded_177 rfl (lv_at hl 0 rfl) ?_
  obtain ⟨i1, h⟩ := h
  refine g8_31 C0 hO i1 tb_1359 dX8_isAdded_178 ?_
  refine lv_icmp_ge (tgt := 210) C0.1 C0.2.1 dX8_isAdded_181 (by decide) (fun c2 => ?_) (fun c2 => ?_)
  · have h := h.1 c2
    refine lv_iload C0.1 C0.2.1 dX8_isAdded_210 (lv_at hl 7 rfl) ?_
    refine lv_if_ne (tgt := 233) C0.1 C0.2.1 dX8_isAdded_212 (by decide) (fun c3 => ?_) (fun c3 => ?_)
    · have h := h.1 c3
      refine lv_iload C0.1 C0.2.1 dX8_isAdded_233 (lv_at hl 7 rfl) ?_
      exact e_Z C0 Y hO hS h.1 h.2 (Nat.le_refl _) (Nat.le_refl _) dX8_isAdded_235
    · have h := h.2 c3
      refine lv_aload_n C0.1 C0.2.1 dX8_isAdded_215 rfl (lv_at hl 0 rfl) ?_
      refine lv_dup C0.1 C0.2.1 dX8_isAdded_216 rfl ?_
      refine g8_32 C0 hO i1 tb_1360 dX8_isAdded_217 ?_
      refine lv_iconst (v := 1) C0.1 C0.2.1 dX8_isAdded_220 (by decide) ?_
      refine lv_isub C0.1 C0.2.1 dX8_isAdded_221 ?_
      refine p8_32 C0 hO hS i1 tb_1360 dX8_isAdded_222 (fun H locs hO hS => ?_)
      have h := h _ rfl
      refine lv_aload_n C0.1 C0.2.1 dX8_isAdded_225 rfl (lv_at hl 0 rfl) ?_
      obtain ⟨a5, ea5, h⟩ := h
      refine g8_7 C0 hO (sA_FI i1) ea5 tb_1335 dX8_isAdded_226 ?_
      refine lv_iload C0.1 C0.2.1 dX8_isAdded_229 (lv_at hl 4 rfl) ?_
      refine lv_iconst (v := (-1)) C0.1 C0.2.1 dX8_isAdded_231 (by decide) ?_
      obtain ⟨i6, h⟩ := h
      obtain ⟨e7, h⟩ := h
      refine r_iast C0 hO hS i6 e7 dX8_isAdded_232 (fun H locs hO hS => ?_)
      have h := h _ rfl
      refine lv_iload C0.1 C0.2.1 dX8_isAdded_233 (lv_at hl 7 rfl) ?_
      exact e_Z C0 Y hO hS h.1 h.2 (Nat.le_refl _) (Nat.le_refl _) dX8_isAdded_235
  · have h := h.2 c2
    refine lv_iload C0.1 C0.2.1 dX8_isAdded_184 (lv_at hl 7 rfl) ?_
    refine lv_aload_n C0.1 C0.2.1 dX8_isAdded_186 rfl (lv_at hl 0 rfl) ?_
    refine lv_iload C0.1 C0.2.1 dX8_isAdded_187 (lv_at hl 8 rfl) ?_
    refine c_V C0 hO hS (mX8_depthOf 20 h) i1 (by decide) rfl rfl tb_1481 tb_1483 tb_42 tb_81 tb_1484 hd_X8_depthOf rfl ⟨⟨by decide, by decide⟩, by decide, by decide⟩ hl.1 rfl (Nat.le_of_ble_eq_true rfl) dX8_isAdded_189 (kI (fun r10 S9 H locs h hO hS => ?_))
    refine lv_iconst (v := 3) C0.1 C0.2.1 dX8_isAdded_192 (by decide) ?_
    refine lv_icmp_gt (tgt := 200) C0.1 C0.2.1 dX8_isAdded_193 (by decide) (fun c11 => ?_) (fun c11 => ?_)
    · have h := h.1 c11
      refine lv_iconst (v := 0) C0.1 C0.2.1 dX8_isAdded_200 (by decide) ?_
      exact bX8_isAdded_b201 C0 Y hk175 _ _ _ _ _ _ _ h hO hS (lv_sub hl [0, 1, 2, 3, 4, 5, 6, 8] rfl)
    · have h := h.2 c11
      refine lv_iconst (v := 1) C0.1 C0.2.1 dX8_isAdded_196 (by decide) ?_
      refine lv_goto (tgt := 201) C0.1 C0.2.1 dX8_isAdded_197 (by decide) ?_
      exact bX8_isAdded_b201 C0 Y hk175 _ _ _ _ _ _ _ h hO hS (lv_sub hl [0, 1, 2, 3, 4, 5, 6, 8] rfl)
set_option maxHeartbeats 4000000 in
set_option maxRecDepth 100000 in
theorem lX8_isAdded_b175 {p : Program} {l : Launch} {e : Env} {s : State} {m : MethodId} {args : Array Value} {below : List Frame} {meth : Method} {c : Code} {G : Gw} {x0 : Nat} {x1 : Int32} {x2 : Int32} {x3 : Int32} {x4 : Int32} {x5 : Int32} {x6 : Int32} {Φ : Hp → Int32 → Prop} (C0 : Mx p s m c cX8_isAdded 10 args yX8_isAdded.cls G) (Y : My meth (some .boolean))  : ∀ n9 : Nat, ∀ (S : Hp) (v8 : Int32) (v9 : Int32) (H : Heap) (locs : List Loc) (ls : Array Slot), it3 (wX8_isAdded_b175 x0 x1 x2 x3 x4 x5 x6 Φ) n9 S v8 v9 → Ok G S H → va_S (Ab G.b) s.heap H locs → lv_has ls 10 [(0, .ref x0), (1, .int x1), (2, .int x2), (3, .int x3), (4, .int x4), (5, .int x5), (6, .int x6), (8, .int v8), (9, .int v9)] → W p l e rm_X8_isAdded s m args below meth c H locs 0 0 (MQ below (gQ G (PI Φ)) args s rm_X8_isAdded.cells rm_X8_isAdded.slots (Ab G.b)) (F0 m 175 ls []) := by
  intro n9
  induction n9 with
  | zero => intro S v8 v9 H locs ls h; exact (h : False).elim
  | succ n9 ih => intro S v8 v9 H locs ls h hO hS hl; exact bX8_isAdded_b175 C0 Y ih S v8 v9 H locs ls h hO hS hl
def wX8_isAdded_b67 (x0 : Nat) (x1 : Int32) (x2 : Int32) (x3 : Int32) (x4 : Int32) (x5 : Int32) (x6 : Int32) (Φ : Hp → Int32 → Prop) (S : Hp) : Prop := isA S x0 8 ∧ ((¬ (S.FI 544 x0) = 16 → ∃ a3, S.FR 521 x0 = some a3 ∧ isA S a3 20 ∧ vp_in (S.FI 544 x0) (S.N a3) ∧ nc x1 ∧ ∀ S7, S7 = S.setAI a3 ((S.FI 544 x0).toNatClampNeg) x1 → ∃ a8, S7.FR 522 x0 = some a8 ∧ isA S7 a8 21 ∧ vp_in (S7.FI 544 x0) (S7.N a8) ∧ ∀ S11, S11 = S7.setAI a8 ((S7.FI 544 x0).toNatClampNeg) x2 → ∃ a12, S11.FR 523 x0 = some a12 ∧ isA S11 a12 21 ∧ vp_in (S11.FI 544 x0) (S11.N a12) ∧ ∀ S15, S15 = S11.setAI a12 ((S11.FI 544 x0).toNatClampNeg) x3 → ∃ a16, S15.FR 524 x0 = some a16 ∧ isA S15 a16 21 ∧ vp_in (S15.FI 544 x0) (S15.N a16) ∧ ∀ S19, S19 = S15.setAI a16 ((S15.FI 544 x0).toNatClampNeg) x4 → ∃ a20, S19.FR 525 x0 = some a20 ∧ isA S19 a20 21 ∧ vp_in (S19.FI 544 x0) (S19.N a20) ∧ ∀ S23, S23 = S19.setAI a20 ((S19.FI 544 x0).toNatClampNeg) x5 → ∃ a24, S23.FR 526 x0 = some a24 ∧ isA S23 a24 21 ∧ vp_in (S23.FI 544 x0) (S23.N a24) ∧ ∀ S27, S27 = S23.setAI a24 ((S23.FI 544 x0).toNatClampNeg) x6 → ∃ a28, S27.FR 519 x0 = some a28 ∧ isA S27 a28 21 ∧ vp_in x4 (S27.N a28) ∧ ∀ S31, S31 = S27.setAI a28 x4.toNatClampNeg (S27.FI 544 x0) → ∀ S32, S32 = S31.setFI 544 x0 ((S31.FI 544 x0) + 1) → ∃ n, it3 (wX8_isAdded_b175 x0 x1 x2 x3 x4 x5 x6 Φ) n S32 1 0) ∧ ((S.FI 544 x0) = 16 → wX8_isShallow S x0 x2 x3 x4 (fun S33 r34 => narrow .boolean (.int r34) = .int r34 ∧ Φ S33 r34)))
set_option maxHeartbeats 4000000 in
set_option maxRecDepth 100000 in
theorem bX8_isAdded_b67 {p : Program} {l : Launch} {e : Env} {s : State} {m : MethodId} {args : Array Value} {below : List Frame} {meth : Method} {c : Code} {G : Gw} {x0 : Nat} {x1 : Int32} {x2 : Int32} {x3 : Int32} {x4 : Int32} {x5 : Int32} {x6 : Int32} {Φ : Hp → Int32 → Prop} (C0 : Mx p s m c cX8_isAdded 10 args yX8_isAdded.cls G) (Y : My meth (some .boolean))  : ∀ (S : Hp) (H : Heap) (locs : List Loc) (ls : Array Slot), wX8_isAdded_b67 x0 x1 x2 x3 x4 x5 x6 Φ S → Ok G S H → va_S (Ab G.b) s.heap H locs → lv_has ls 10 [(0, .ref x0), (1, .int x1), (2, .int x2), (3, .int x3), (4, .int x4), (5, .int x5), (6, .int x6)] → W p l e rm_X8_isAdded s m args below meth c H locs 0 0 (MQ below (gQ G (PI Φ)) args s rm_X8_isAdded.cells rm_X8_isAdded.slots (Ab G.b)) (F0 m 67 ls []) := by
  intro S H locs ls h hO hS hl
  unfold wX8_isAdded_b67 at h
  refine lv_aload_n C0.1 C0.2.1 dX8_isAdded_67 rfl (lv_at hl 0 rfl) ?_
  obtain ⟨i1, h⟩ := h
  refine g8_32 C0 hO i1 tb_1360 dX8_isAdded_68 ?_
  refine lv_bipush (v := 16) C0.1 C0.2.1 dX8_isAdded_71 (by decide) ?_
  refine lv_icmp_ne (tgt := 85) C0.1 C0.2.1 dX8_isAdded_73 (by decide) (fun c2 => ?_) (fun c2 => ?_)
  · have h := h.1 c2
    refine lv_aload_n C0.1 C0.2.1 dX8_isAdded_85 rfl (lv_at hl 0 rfl) ?_
    obtain ⟨a3, ea3, h⟩ := h
    refine g8_9 C0 hO i1 ea3 tb_1337 dX8_isAdded_86 ?_
    refine lv_aload_n C0.1 C0.2.1 dX8_isAdded_89 rfl (lv_at hl 0 rfl) ?_
    refine g8_32 C0 hO i1 tb_1360 dX8_isAdded_90 ?_
    refine lv_iload_n C0.1 C0.2.1 dX8_isAdded_93 rfl (lv_at hl 1 rfl) ?_
    obtain ⟨i4, h⟩ := h
    obtain ⟨e5, h⟩ := h
    obtain ⟨e6, h⟩ := h
    refine r_cast C0 hO hS i4 e5 e6 dX8_isAdded_94 (fun H locs hO hS => ?_)
    have h := h _ rfl
    refine lv_aload_n C0.1 C0.2.1 dX8_isAdded_95 rfl (lv_at hl 0 rfl) ?_
    obtain ⟨a8, ea8, h⟩ := h
    refine g8_10 C0 hO (sA_AI i1) ea8 tb_1338 dX8_isAdded_96 ?_
    refine lv_aload_n C0.1 C0.2.1 dX8_isAdded_99 rfl (lv_at hl 0 rfl) ?_
    refine g8_32 C0 hO (sA_AI i1) tb_1360 dX8_isAdded_100 ?_
    refine lv_iload_n C0.1 C0.2.1 dX8_isAdded_103 rfl (lv_at hl 2 rfl) ?_
    obtain ⟨i9, h⟩ := h
    obtain ⟨e10, h⟩ := h
    refine r_iast C0 hO hS i9 e10 dX8_isAdded_104 (fun H locs hO hS => ?_)
    have h := h _ rfl
    refine lv_aload_n C0.1 C0.2.1 dX8_isAdded_105 rfl (lv_at hl 0 rfl) ?_
    obtain ⟨a12, ea12, h⟩ := h
    refine g8_11 C0 hO (sA_AI (sA_AI i1)) ea12 tb_1339 dX8_isAdded_106 ?_
    refine lv_aload_n C0.1 C0.2.1 dX8_isAdded_109 rfl (lv_at hl 0 rfl) ?_
    refine g8_32 C0 hO (sA_AI (sA_AI i1)) tb_1360 dX8_isAdded_110 ?_
    refine lv_iload_n C0.1 C0.2.1 dX8_isAdded_113 rfl (lv_at hl 3 rfl) ?_
    obtain ⟨i13, h⟩ := h
    obtain ⟨e14, h⟩ := h
    refine r_iast C0 hO hS i13 e14 dX8_isAdded_114 (fun H locs hO hS => ?_)
    have h := h _ rfl
    refine lv_aload_n C0.1 C0.2.1 dX8_isAdded_115 rfl (lv_at hl 0 rfl) ?_
    obtain ⟨a16, ea16, h⟩ := h
    refine g8_12 C0 hO (sA_AI (sA_AI (sA_AI i1))) ea16 tb_1340 dX8_isAdded_116 ?_
    refine lv_aload_n C0.1 C0.2.1 dX8_isAdded_119 rfl (lv_at hl 0 rfl) ?_
    refine g8_32 C0 hO (sA_AI (sA_AI (sA_AI i1))) tb_1360 dX8_isAdded_120 ?_
    refine lv_iload C0.1 C0.2.1 dX8_isAdded_123 (lv_at hl 4 rfl) ?_
    obtain ⟨i17, h⟩ := h
    obtain ⟨e18, h⟩ := h
    refine r_iast C0 hO hS i17 e18 dX8_isAdded_125 (fun H locs hO hS => ?_)
    have h := h _ rfl
    refine lv_aload_n C0.1 C0.2.1 dX8_isAdded_126 rfl (lv_at hl 0 rfl) ?_
    obtain ⟨a20, ea20, h⟩ := h
    refine g8_13 C0 hO (sA_AI (sA_AI (sA_AI (sA_AI i1)))) ea20 tb_1341 dX8_isAdded_127 ?_
    refine lv_aload_n C0.1 C0.2.1 dX8_isAdded_130 rfl (lv_at hl 0 rfl) ?_
    refine g8_32 C0 hO (sA_AI (sA_AI (sA_AI (sA_AI i1)))) tb_1360 dX8_isAdded_131 ?_
    refine lv_iload C0.1 C0.2.1 dX8_isAdded_134 (lv_at hl 5 rfl) ?_
    obtain ⟨i21, h⟩ := h
    obtain ⟨e22, h⟩ := h
    refine r_iast C0 hO hS i21 e22 dX8_isAdded_136 (fun H locs hO hS => ?_)
    have h := h _ rfl
    refine lv_aload_n C0.1 C0.2.1 dX8_isAdded_137 rfl (lv_at hl 0 rfl) ?_
    obtain ⟨a24, ea24, h⟩ := h
    refine g8_14 C0 hO (sA_AI (sA_AI (sA_AI (sA_AI (sA_AI i1))))) ea24 tb_1342 dX8_isAdded_138 ?_
    refine lv_aload_n C0.1 C0.2.1 dX8_isAdded_141 rfl (lv_at hl 0 rfl) ?_
    refine g8_32 C0 hO (sA_AI (sA_AI (sA_AI (sA_AI (sA_AI i1))))) tb_1360 dX8_isAdded_142 ?_
    refine lv_iload C0.1 C0.2.1 dX8_isAdded_145 (lv_at hl 6 rfl) ?_
    obtain ⟨i25, h⟩ := h
    obtain ⟨e26, h⟩ := h
    refine r_iast C0 hO hS i25 e26 dX8_isAdded_147 (fun H locs hO hS => ?_)
    have h := h _ rfl
    refine lv_aload_n C0.1 C0.2.1 dX8_isAdded_148 rfl (lv_at hl 0 rfl) ?_
    obtain ⟨a28, ea28, h⟩ := h
    refine g8_7 C0 hO (sA_AI (sA_AI (sA_AI (sA_AI (sA_AI (sA_AI i1)))))) ea28 tb_1335 dX8_isAdded_149 ?_
    refine lv_iload C0.1 C0.2.1 dX8_isAdded_152 (lv_at hl 4 rfl) ?_
    refine lv_aload_n C0.1 C0.2.1 dX8_isAdded_154 rfl (lv_at hl 0 rfl) ?_
    refine g8_32 C0 hO (sA_AI (sA_AI (sA_AI (sA_AI (sA_AI (sA_AI i1)))))) tb_1360 dX8_isAdded_155 ?_
    obtain ⟨i29, h⟩ := h
    obtain ⟨e30, h⟩ := h
    refine r_iast C0 hO hS i29 e30 dX8_isAdded_158 (fun H locs hO hS => ?_)
    have h := h _ rfl
    refine lv_aload_n C0.1 C0.2.1 dX8_isAdded_159 rfl (lv_at hl 0 rfl) ?_
    refine lv_dup C0.1 C0.2.1 dX8_isAdded_160 rfl ?_
    refine g8_32 C0 hO (sA_AI (sA_AI (sA_AI (sA_AI (sA_AI (sA_AI (sA_AI i1))))))) tb_1360 dX8_isAdded_161 ?_
    refine lv_iconst (v := 1) C0.1 C0.2.1 dX8_isAdded_164 (by decide) ?_
    refine lv_iadd C0.1 C0.2.1 dX8_isAdded_165 ?_
    refine p8_32 C0 hO hS (sA_AI (sA_AI (sA_AI (sA_AI (sA_AI (sA_AI (sA_AI i1))))))) tb_1360 dX8_isAdded_166 (fun H locs hO hS => ?_)
    have h := h _ rfl
    refine lv_iconst (v := 1) C0.1 C0.2.1 dX8_isAdded_169 (by decide) ?_
    refine lv_istore C0.1 C0.2.1 dX8_isAdded_170 hl (by decide) rfl (fun ls hl => ?_)
    refine lv_iconst (v := 0) C0.1 C0.2.1 dX8_isAdded_172 (by decide) ?_
    refine lv_istore C0.1 C0.2.1 dX8_isAdded_173 hl (by decide) rfl (fun ls hl => ?_)
    obtain ⟨n9, h⟩ := h
    exact lX8_isAdded_b175 C0 Y n9 _ _ _ _ _ _ h hO hS (lv_sub hl [2, 3, 4, 5, 6, 7, 8, 1, 0] rfl)
  · have h := h.2 c2
    refine lv_aload_n C0.1 C0.2.1 dX8_isAdded_76 rfl (lv_at hl 0 rfl) ?_
    refine lv_iload_n C0.1 C0.2.1 dX8_isAdded_77 rfl (lv_at hl 2 rfl) ?_
    refine lv_iload_n C0.1 C0.2.1 dX8_isAdded_78 rfl (lv_at hl 3 rfl) ?_
    refine lv_iload C0.1 C0.2.1 dX8_isAdded_79 (lv_at hl 4 rfl) ?_
    refine c_V C0 hO hS (mX8_isShallow h) i1 (by decide) rfl rfl tb_1477 tb_1479 tb_41 tb_81 tb_1480 hd_X8_isShallow rfl ⟨⟨by decide, by decide⟩, by decide, by decide⟩ hl.1 rfl (Nat.le_of_ble_eq_true rfl) dX8_isAdded_81 (kI (fun r34 S33 H locs h hO hS => ?_))
    exact e_Z C0 Y hO hS h.1 h.2 (Nat.le_refl _) (Nat.le_refl _) dX8_isAdded_84
def wX8_isAdded_b22 (x0 : Nat) (x1 : Int32) (x2 : Int32) (x3 : Int32) (x4 : Int32) (x5 : Int32) (x6 : Int32) (Φ : Hp → Int32 → Prop) (S : Hp) (z0 : Int32) : Prop := ((¬ z0 = 0 → Φ S 0) ∧ (z0 = 0 → isA S x0 8 ∧ ∃ a3, S.FR 519 x0 = some a3 ∧ isA S a3 21 ∧ vp_in x4 (S.N a3) ∧ ((¬ (S.AI a3 x4.toNatClampNeg) = (-1) → Φ S 0) ∧ ((S.AI a3 x4.toNatClampNeg) = (-1) → wX8_leads 20 S x0 x4 x2 (fun S7 r8 => ((¬ r8 = 0 → Φ S7 0) ∧ (r8 = 0 → ((x3 = (-1) → wX8_isAdded_b67 x0 x1 x2 x3 x4 x5 x6 Φ S7) ∧ (¬ (x3 = (-1)) → isA S7 x0 8 ∧ wX8_leads 20 S7 x0 x4 x3 (fun S11 r12 => ((r12 = 0 → wX8_isAdded_b67 x0 x1 x2 x3 x4 x5 x6 Φ S11) ∧ (¬ (r12 = 0) → Φ S11 0))))))))))))
set_option maxHeartbeats 4000000 in
set_option maxRecDepth 100000 in
theorem bX8_isAdded_b22 {p : Program} {l : Launch} {e : Env} {s : State} {m : MethodId} {args : Array Value} {below : List Frame} {meth : Method} {c : Code} {G : Gw} {x0 : Nat} {x1 : Int32} {x2 : Int32} {x3 : Int32} {x4 : Int32} {x5 : Int32} {x6 : Int32} {Φ : Hp → Int32 → Prop} (C0 : Mx p s m c cX8_isAdded 10 args yX8_isAdded.cls G) (Y : My meth (some .boolean))  : ∀ (S : Hp) (z0 : Int32) (H : Heap) (locs : List Loc) (ls : Array Slot), wX8_isAdded_b22 x0 x1 x2 x3 x4 x5 x6 Φ S z0 → Ok G S H → va_S (Ab G.b) s.heap H locs → lv_has ls 10 [(0, .ref x0), (1, .int x1), (2, .int x2), (3, .int x3), (4, .int x4), (5, .int x5), (6, .int x6)] → W p l e rm_X8_isAdded s m args below meth c H locs 0 0 (MQ below (gQ G (PI Φ)) args s rm_X8_isAdded.cells rm_X8_isAdded.slots (Ab G.b)) (F0 m 22 ls [.int z0]) := by
  intro S z0 H locs ls h hO hS hl
  unfold wX8_isAdded_b22 at h
  refine lv_istore C0.1 C0.2.1 dX8_isAdded_22 hl (by decide) rfl (fun ls hl => ?_)
  refine lv_iload C0.1 C0.2.1 dX8_isAdded_24 (lv_at hl 0 rfl) ?_
  refine lv_if_ne (tgt := 65) C0.1 C0.2.1 dX8_isAdded_26 (by decide) (fun c1 => ?_) (fun c1 => ?_)
  · have h := h.1 c1
    refine lv_iconst (v := 0) C0.1 C0.2.1 dX8_isAdded_65 (by decide) ?_
    exact e_Z C0 Y hO hS rfl h (Nat.le_refl _) (Nat.le_refl _) dX8_isAdded_66
  · have h := h.2 c1
    refine lv_aload_n C0.1 C0.2.1 dX8_isAdded_29 rfl (lv_at hl 1 rfl) ?_
    obtain ⟨i2, h⟩ := h
    obtain ⟨a3, ea3, h⟩ := h
    refine g8_7 C0 hO i2 ea3 tb_1335 dX8_isAdded_30 ?_
    refine lv_iload C0.1 C0.2.1 dX8_isAdded_33 (lv_at hl 5 rfl) ?_
    obtain ⟨i4, h⟩ := h
    obtain ⟨e5, h⟩ := h
    refine r_iald C0 hO i4 e5 dX8_isAdded_35 ?_
    refine lv_iconst (v := (-1)) C0.1 C0.2.1 dX8_isAdded_36 (by decide) ?_
    refine lv_icmp_ne (tgt := 65) C0.1 C0.2.1 dX8_isAdded_37 (by decide) (fun c6 => ?_) (fun c6 => ?_)
    · have h := h.1 c6
      refine lv_iconst (v := 0) C0.1 C0.2.1 dX8_isAdded_65 (by decide) ?_
      exact e_Z C0 Y hO hS rfl h (Nat.le_refl _) (Nat.le_refl _) dX8_isAdded_66
    · have h := h.2 c6
      refine lv_aload_n C0.1 C0.2.1 dX8_isAdded_40 rfl (lv_at hl 1 rfl) ?_
      refine lv_iload C0.1 C0.2.1 dX8_isAdded_41 (lv_at hl 5 rfl) ?_
      refine lv_iload_n C0.1 C0.2.1 dX8_isAdded_43 rfl (lv_at hl 3 rfl) ?_
      refine c_V C0 hO hS (mX8_leads 20 h) i2 (by decide) rfl rfl tb_1473 tb_1475 tb_40 tb_81 tb_1476 hd_X8_leads rfl ⟨⟨by decide, by decide⟩, by decide, by decide⟩ hl.1 rfl (Nat.le_of_ble_eq_true rfl) dX8_isAdded_44 (kI (fun r8 S7 H locs h hO hS => ?_))
      refine lv_if_ne (tgt := 65) C0.1 C0.2.1 dX8_isAdded_47 (by decide) (fun c9 => ?_) (fun c9 => ?_)
      · have h := h.1 c9
        refine lv_iconst (v := 0) C0.1 C0.2.1 dX8_isAdded_65 (by decide) ?_
        exact e_Z C0 Y hO hS rfl h (Nat.le_refl _) (Nat.le_refl _) dX8_isAdded_66
      · have h := h.2 c9
        refine lv_iload_n C0.1 C0.2.1 dX8_isAdded_50 rfl (lv_at hl 4 rfl) ?_
        refine lv_iconst (v := (-1)) C0.1 C0.2.1 dX8_isAdded_51 (by decide) ?_
        refine lv_icmp_eq (tgt := 67) C0.1 C0.2.1 dX8_isAdded_52 (by decide) (fun c10 => ?_) (fun c10 => ?_)
        · have h := h.1 c10
          exact bX8_isAdded_b67 C0 Y _ _ _ _ h hO hS (lv_sub hl [1, 2, 3, 4, 5, 6, 7] rfl)
        · have h := h.2 c10
          refine lv_aload_n C0.1 C0.2.1 dX8_isAdded_55 rfl (lv_at hl 1 rfl) ?_
          refine lv_iload C0.1 C0.2.1 dX8_isAdded_56 (lv_at hl 5 rfl) ?_
          refine lv_iload_n C0.1 C0.2.1 dX8_isAdded_58 rfl (lv_at hl 4 rfl) ?_
          obtain ⟨i13, h⟩ := h
          refine c_V C0 hO hS (mX8_leads 20 h) i13 (by decide) rfl rfl tb_1473 tb_1475 tb_40 tb_81 tb_1476 hd_X8_leads rfl ⟨⟨by decide, by decide⟩, by decide, by decide⟩ hl.1 rfl (Nat.le_of_ble_eq_true rfl) dX8_isAdded_59 (kI (fun r12 S11 H locs h hO hS => ?_))
          refine lv_if_eq (tgt := 67) C0.1 C0.2.1 dX8_isAdded_62 (by decide) (fun c14 => ?_) (fun c14 => ?_)
          · have h := h.1 c14
            exact bX8_isAdded_b67 C0 Y _ _ _ _ h hO hS (lv_sub hl [1, 2, 3, 4, 5, 6, 7] rfl)
          · have h := h.2 c14
            refine lv_iconst (v := 0) C0.1 C0.2.1 dX8_isAdded_65 (by decide) ?_
            exact e_Z C0 Y hO hS rfl h (Nat.le_refl _) (Nat.le_refl _) dX8_isAdded_66
def wX8_isAdded_b17 (x0 : Nat) (x1 : Int32) (x2 : Int32) (x3 : Int32) (x4 : Int32) (x5 : Int32) (x6 : Int32) (Φ : Hp → Int32 → Prop) (S : Hp) : Prop := wX8_isAdded_b22 x0 x1 x2 x3 x4 x5 x6 Φ S 1
set_option maxHeartbeats 4000000 in
set_option maxRecDepth 100000 in
theorem bX8_isAdded_b17 {p : Program} {l : Launch} {e : Env} {s : State} {m : MethodId} {args : Array Value} {below : List Frame} {meth : Method} {c : Code} {G : Gw} {x0 : Nat} {x1 : Int32} {x2 : Int32} {x3 : Int32} {x4 : Int32} {x5 : Int32} {x6 : Int32} {Φ : Hp → Int32 → Prop} (C0 : Mx p s m c cX8_isAdded 10 args yX8_isAdded.cls G) (Y : My meth (some .boolean))  : ∀ (S : Hp) (H : Heap) (locs : List Loc) (ls : Array Slot), wX8_isAdded_b17 x0 x1 x2 x3 x4 x5 x6 Φ S → Ok G S H → va_S (Ab G.b) s.heap H locs → lv_has ls 10 [(0, .ref x0), (1, .int x1), (2, .int x2), (3, .int x3), (4, .int x4), (5, .int x5), (6, .int x6)] → W p l e rm_X8_isAdded s m args below meth c H locs 0 0 (MQ below (gQ G (PI Φ)) args s rm_X8_isAdded.cells rm_X8_isAdded.slots (Ab G.b)) (F0 m 17 ls []) := by
  intro S H locs ls h hO hS hl
  unfold wX8_isAdded_b17 at h
  refine lv_iconst (v := 1) C0.1 C0.2.1 dX8_isAdded_17 (by decide) ?_
  refine lv_goto (tgt := 22) C0.1 C0.2.1 dX8_isAdded_18 (by decide) ?_
  exact bX8_isAdded_b22 C0 Y _ _ _ _ _ h hO hS (lv_sub hl [0, 1, 2, 3, 4, 5, 6] rfl)
def wX8_isAdded_b0 (x0 : Nat) (x1 : Int32) (x2 : Int32) (x3 : Int32) (x4 : Int32) (x5 : Int32) (x6 : Int32) (Φ : Hp → Int32 → Prop) (S : Hp) : Prop := ((x2 = x4 → wX8_isAdded_b17 x0 x1 x2 x3 x4 x5 x6 Φ S) ∧ (¬ (x2 = x4) → ((x3 = x4 → wX8_isAdded_b17 x0 x1 x2 x3 x4 x5 x6 Φ S) ∧ (¬ (x3 = x4) → ((¬ x3 = x2 → wX8_isAdded_b22 x0 x1 x2 x3 x4 x5 x6 Φ S 0) ∧ (x3 = x2 → wX8_isAdded_b17 x0 x1 x2 x3 x4 x5 x6 Φ S))))))
set_option maxHeartbeats 4000000 in
set_option maxRecDepth 100000 in
theorem bX8_isAdded_b0 {p : Program} {l : Launch} {e : Env} {s : State} {m : MethodId} {args : Array Value} {below : List Frame} {meth : Method} {c : Code} {G : Gw} {x0 : Nat} {x1 : Int32} {x2 : Int32} {x3 : Int32} {x4 : Int32} {x5 : Int32} {x6 : Int32} {Φ : Hp → Int32 → Prop} (C0 : Mx p s m c cX8_isAdded 10 args yX8_isAdded.cls G) (Y : My meth (some .boolean))  : ∀ (S : Hp) (H : Heap) (locs : List Loc) (ls : Array Slot), wX8_isAdded_b0 x0 x1 x2 x3 x4 x5 x6 Φ S → Ok G S H → va_S (Ab G.b) s.heap H locs → lv_has ls 10 [(0, .ref x0), (1, .int x1), (2, .int x2), (3, .int x3), (4, .int x4), (5, .int x5), (6, .int x6)] → W p l e rm_X8_isAdded s m args below meth c H locs 0 0 (MQ below (gQ G (PI Φ)) args s rm_X8_isAdded.cells rm_X8_isAdded.slots (Ab G.b)) (F0 m 0 ls []) := by
  intro S H locs ls h hO hS hl
  unfold wX8_isAdded_b0 at h
  refine lv_iload_n C0.1 C0.2.1 dX8_isAdded_0 rfl (lv_at hl 2 rfl) ?_
  refine lv_iload C0.1 C0.2.1 dX8_isAdded_1 (lv_at hl 4 rfl) ?_
  refine lv_icmp_eq (tgt := 17) C0.1 C0.2.1 dX8_isAdded_3 (by decide) (fun c1 => ?_) (fun c1 => ?_)
  · have h := h.1 c1
    exact bX8_isAdded_b17 C0 Y _ _ _ _ h hO hS (lv_sub hl [0, 1, 2, 3, 4, 5, 6] rfl)
  · have h := h.2 c1
    refine lv_iload_n C0.1 C0.2.1 dX8_isAdded_6 rfl (lv_at hl 3 rfl) ?_
    refine lv_iload C0.1 C0.2.1 dX8_isAdded_7 (lv_at hl 4 rfl) ?_
    refine lv_icmp_eq (tgt := 17) C0.1 C0.2.1 dX8_isAdded_9 (by decide) (fun c2 => ?_) (fun c2 => ?_)
    · have h := h.1 c2
      exact bX8_isAdded_b17 C0 Y _ _ _ _ h hO hS (lv_sub hl [0, 1, 2, 3, 4, 5, 6] rfl)
    · have h := h.2 c2
      refine lv_iload_n C0.1 C0.2.1 dX8_isAdded_12 rfl (lv_at hl 3 rfl) ?_
      refine lv_iload_n C0.1 C0.2.1 dX8_isAdded_13 rfl (lv_at hl 2 rfl) ?_
      refine lv_icmp_ne (tgt := 21) C0.1 C0.2.1 dX8_isAdded_14 (by decide) (fun c3 => ?_) (fun c3 => ?_)
      · have h := h.1 c3
        refine lv_iconst (v := 0) C0.1 C0.2.1 dX8_isAdded_21 (by decide) ?_
        exact bX8_isAdded_b22 C0 Y _ _ _ _ _ h hO hS (lv_sub hl [0, 1, 2, 3, 4, 5, 6] rfl)
      · have h := h.2 c3
        exact bX8_isAdded_b17 C0 Y _ _ _ _ h hO hS (lv_sub hl [0, 1, 2, 3, 4, 5, 6] rfl)
def wX8_isAdded (S : Hp) (x0 : Nat) (x1 : Int32) (x2 : Int32) (x3 : Int32) (x4 : Int32) (x5 : Int32) (x6 : Int32) (Φ : Hp → Int32 → Prop) : Prop := wX8_isAdded_b0 x0 x1 x2 x3 x4 x5 x6 Φ S
set_option maxRecDepth 100000 in
theorem mX8_isAdded {l : Launch} {G : Gw} {S : Hp} {x0 : Nat} {x1 : Int32} {x2 : Int32} {x3 : Int32} {x4 : Int32} {x5 : Int32} {x6 : Int32} {Φ : Hp → Int32 → Prop} (h : wX8_isAdded S x0 x1 x2 x3 x4 x5 x6 Φ) : gM l yX8_isAdded cX8_isAdded 10 (some .boolean) rm_X8_isAdded [.ref x0, .int x1, .int x2, .int x3, .int x4, .int x5, .int x6] G S (PI Φ) := by
  unfold gM
  refine Met.ofW (cc := cX8_isAdded) (maxL := 10) (ret := (some .boolean)) (by decide) rfl ?_
  intro p e s m args below meth c s₁ B hml hv
  obtain ⟨rfl, hw⟩ := hv
  obtain ⟨C0, Y, hO⟩ := mx_of B hml hw
  have hS : va_S (Ab G.b) s.heap s.heap [] := va_S.rf
  have hl := lv_entry ([.ref x0, .int x1, .int x2, .int x3, .int x4, .int x5, .int x6]) (n := 10) (Nat.le_of_ble_eq_true rfl)
  rw [lg_entry_eq]
  generalize (lg_sl ([.ref x0, .int x1, .int x2, .int x3, .int x4, .int x5, .int x6]) ++ List.replicate (10 - (lg_sl ([.ref x0, .int x1, .int x2, .int x3, .int x4, .int x5, .int x6])).length) Slot.unset).toArray = ls at hl ⊢
  have hl : lv_has ls 10 [(0, .ref x0), (1, .int x1), (2, .int x2), (3, .int x3), (4, .int x4), (5, .int x5), (6, .int x6)] := hl
  exact bX8_isAdded_b0 C0 Y S _ _ _ h hO hS hl

def rm_X8_made : Room := { frames := 2, cells := 0, slots := 0, locals := 50 }
def wX8_made_b0 (x0 : Nat) (Φ : Hp → Int32 → Prop) (S : Hp) : Prop := isA S x0 8 ∧ ∃ a2, S.FR 527 x0 = some a2 ∧ isA S a2 23 ∧ vp_in ((S.FI 544 x0) - 1) (S.N a2) ∧ ∀ S5, S5 = S.setAI a2 (((S.FI 544 x0) - 1).toNatClampNeg) 0 → ∃ a6, S5.FR 528 x0 = some a6 ∧ isA S5 a6 23 ∧ vp_in ((S.FI 544 x0) - 1) (S5.N a6) ∧ ∀ S9, S9 = S5.setAI a6 (((S.FI 544 x0) - 1).toNatClampNeg) 0 → ∃ a10, S9.FR 529 x0 = some a10 ∧ isA S9 a10 21 ∧ vp_in ((S.FI 544 x0) - 1) (S9.N a10) ∧ ∀ S13, S13 = S9.setAI a10 (((S.FI 544 x0) - 1).toNatClampNeg) 0 → ∃ a14, S13.FR 530 x0 = some a14 ∧ isA S13 a14 21 ∧ vp_in ((S.FI 544 x0) - 1) (S13.N a14) ∧ ∀ S17, S17 = S13.setAI a14 (((S.FI 544 x0) - 1).toNatClampNeg) 0 → ∃ a18, S17.FR 531 x0 = some a18 ∧ isA S17 a18 22 ∧ vp_in ((S.FI 544 x0) - 1) (S17.N a18) ∧ ∀ S21, S21 = S17.setAJ a18 (((S.FI 544 x0) - 1).toNatClampNeg) 0 → ∃ a22, S21.FR 532 x0 = some a22 ∧ isA S21 a22 22 ∧ vp_in ((S.FI 544 x0) - 1) (S21.N a22) ∧ ∀ S25, S25 = S21.setAJ a22 (((S.FI 544 x0) - 1).toNatClampNeg) 1 → ∃ a26, S25.FR 533 x0 = some a26 ∧ ∃ a27, S25.FR 525 x0 = some a27 ∧ isA S25 a27 21 ∧ vp_in ((S.FI 544 x0) - 1) (S25.N a27) ∧ ∃ a30, S25.FR 512 x0 = some a30 ∧ ∃ a31, S25.FR 522 x0 = some a31 ∧ isA S25 a31 21 ∧ vp_in ((S.FI 544 x0) - 1) (S25.N a31) ∧ isA S25 a30 22 ∧ vp_in (S25.AI a31 (((S.FI 544 x0) - 1).toNatClampNeg)) (S25.N a30) ∧ ∃ a36, S25.FR 513 x0 = some a36 ∧ ∃ a37, S25.FR 522 x0 = some a37 ∧ isA S25 a37 21 ∧ vp_in ((S.FI 544 x0) - 1) (S25.N a37) ∧ isA S25 a36 22 ∧ vp_in (S25.AI a37 (((S.FI 544 x0) - 1).toNatClampNeg)) (S25.N a36) ∧ wX8_floor S25 ((S25.AI a27 (((S.FI 544 x0) - 1).toNatClampNeg)).toInt64) (S25.AJ a30 ((S25.AI a31 (((S.FI 544 x0) - 1).toNatClampNeg)).toNatClampNeg)) (S25.AJ a36 ((S25.AI a37 (((S.FI 544 x0) - 1).toNatClampNeg)).toNatClampNeg)) (fun S42 r43 => isA S42 a26 22 ∧ vp_in ((S.FI 544 x0) - 1) (S42.N a26) ∧ ∀ S46, S46 = S42.setAJ a26 (((S.FI 544 x0) - 1).toNatClampNeg) r43 → Φ S46 ((S.FI 544 x0) - 1))
set_option maxHeartbeats 4000000 in
set_option maxRecDepth 100000 in
theorem bX8_made_b0 {p : Program} {l : Launch} {e : Env} {s : State} {m : MethodId} {args : Array Value} {below : List Frame} {meth : Method} {c : Code} {G : Gw} {x0 : Nat} {Φ : Hp → Int32 → Prop} (C0 : Mx p s m c cX8_made 2 args yX8_made.cls G) (Y : My meth (some .int))  : ∀ (S : Hp) (H : Heap) (locs : List Loc) (ls : Array Slot), wX8_made_b0 x0 Φ S → Ok G S H → va_S (Ab G.b) s.heap H locs → lv_has ls 2 [(0, .ref x0)] → W p l e rm_X8_made s m args below meth c H locs 0 0 (MQ below (gQ G (PI Φ)) args s rm_X8_made.cells rm_X8_made.slots (Ab G.b)) (F0 m 0 ls []) := by
  intro S H locs ls h hO hS hl
  unfold wX8_made_b0 at h
  refine lv_aload_n C0.1 C0.2.1 dX8_made_0 rfl (lv_at hl 0 rfl) ?_
  obtain ⟨i1, h⟩ := h
  refine g8_32 C0 hO i1 tb_1360 dX8_made_1 ?_
  refine lv_iconst (v := 1) C0.1 C0.2.1 dX8_made_4 (by decide) ?_
  refine lv_isub C0.1 C0.2.1 dX8_made_5 ?_
  refine lv_istore_n C0.1 C0.2.1 dX8_made_6 rfl hl (by decide) rfl (fun ls hl => ?_)
  refine lv_aload_n C0.1 C0.2.1 dX8_made_7 rfl (lv_at hl 1 rfl) ?_
  obtain ⟨a2, ea2, h⟩ := h
  refine g8_15 C0 hO i1 ea2 tb_1343 dX8_made_8 ?_
  refine lv_iload_n C0.1 C0.2.1 dX8_made_11 rfl (lv_at hl 0 rfl) ?_
  refine lv_iconst (v := 0) C0.1 C0.2.1 dX8_made_12 (by decide) ?_
  obtain ⟨i3, h⟩ := h
  obtain ⟨e4, h⟩ := h
  refine r_zast C0 hO hS i3 e4 ⟨rfl, rfl⟩ dX8_made_13 (fun H locs hO hS => ?_)
  have h := h _ rfl
  refine lv_aload_n C0.1 C0.2.1 dX8_made_14 rfl (lv_at hl 1 rfl) ?_
  obtain ⟨a6, ea6, h⟩ := h
  refine g8_16 C0 hO (sA_AI i1) ea6 tb_1344 dX8_made_15 ?_
  refine lv_iload_n C0.1 C0.2.1 dX8_made_18 rfl (lv_at hl 0 rfl) ?_
  refine lv_iconst (v := 0) C0.1 C0.2.1 dX8_made_19 (by decide) ?_
  obtain ⟨i7, h⟩ := h
  obtain ⟨e8, h⟩ := h
  refine r_zast C0 hO hS i7 e8 ⟨rfl, rfl⟩ dX8_made_20 (fun H locs hO hS => ?_)
  have h := h _ rfl
  refine lv_aload_n C0.1 C0.2.1 dX8_made_21 rfl (lv_at hl 1 rfl) ?_
  obtain ⟨a10, ea10, h⟩ := h
  refine g8_17 C0 hO (sA_AI (sA_AI i1)) ea10 tb_1345 dX8_made_22 ?_
  refine lv_iload_n C0.1 C0.2.1 dX8_made_25 rfl (lv_at hl 0 rfl) ?_
  refine lv_iconst (v := 0) C0.1 C0.2.1 dX8_made_26 (by decide) ?_
  obtain ⟨i11, h⟩ := h
  obtain ⟨e12, h⟩ := h
  refine r_iast C0 hO hS i11 e12 dX8_made_27 (fun H locs hO hS => ?_)
  have h := h _ rfl
  refine lv_aload_n C0.1 C0.2.1 dX8_made_28 rfl (lv_at hl 1 rfl) ?_
  obtain ⟨a14, ea14, h⟩ := h
  refine g8_18 C0 hO (sA_AI (sA_AI (sA_AI i1))) ea14 tb_1346 dX8_made_29 ?_
  refine lv_iload_n C0.1 C0.2.1 dX8_made_32 rfl (lv_at hl 0 rfl) ?_
  refine lv_iconst (v := 0) C0.1 C0.2.1 dX8_made_33 (by decide) ?_
  obtain ⟨i15, h⟩ := h
  obtain ⟨e16, h⟩ := h
  refine r_iast C0 hO hS i15 e16 dX8_made_34 (fun H locs hO hS => ?_)
  have h := h _ rfl
  refine lv_aload_n C0.1 C0.2.1 dX8_made_35 rfl (lv_at hl 1 rfl) ?_
  obtain ⟨a18, ea18, h⟩ := h
  refine g8_19 C0 hO (sA_AI (sA_AI (sA_AI (sA_AI i1)))) ea18 tb_1347 dX8_made_36 ?_
  refine lv_iload_n C0.1 C0.2.1 dX8_made_39 rfl (lv_at hl 0 rfl) ?_
  refine lv_lconst (v := 0) C0.1 C0.2.1 dX8_made_40 (by decide) ?_
  obtain ⟨i19, h⟩ := h
  obtain ⟨e20, h⟩ := h
  refine r_last C0 hO hS i19 e20 dX8_made_41 (fun H locs hO hS => ?_)
  have h := h _ rfl
  refine lv_aload_n C0.1 C0.2.1 dX8_made_42 rfl (lv_at hl 1 rfl) ?_
  obtain ⟨a22, ea22, h⟩ := h
  refine g8_20 C0 hO (sA_AJ (sA_AI (sA_AI (sA_AI (sA_AI i1))))) ea22 tb_1348 dX8_made_43 ?_
  refine lv_iload_n C0.1 C0.2.1 dX8_made_46 rfl (lv_at hl 0 rfl) ?_
  refine lv_lconst (v := 1) C0.1 C0.2.1 dX8_made_47 (by decide) ?_
  obtain ⟨i23, h⟩ := h
  obtain ⟨e24, h⟩ := h
  refine r_last C0 hO hS i23 e24 dX8_made_48 (fun H locs hO hS => ?_)
  have h := h _ rfl
  refine lv_aload_n C0.1 C0.2.1 dX8_made_49 rfl (lv_at hl 1 rfl) ?_
  obtain ⟨a26, ea26, h⟩ := h
  refine g8_21 C0 hO (sA_AJ (sA_AJ (sA_AI (sA_AI (sA_AI (sA_AI i1)))))) ea26 tb_1349 dX8_made_50 ?_
  refine lv_iload_n C0.1 C0.2.1 dX8_made_53 rfl (lv_at hl 0 rfl) ?_
  refine lv_aload_n C0.1 C0.2.1 dX8_made_54 rfl (lv_at hl 1 rfl) ?_
  obtain ⟨a27, ea27, h⟩ := h
  refine g8_13 C0 hO (sA_AJ (sA_AJ (sA_AI (sA_AI (sA_AI (sA_AI i1)))))) ea27 tb_1341 dX8_made_55 ?_
  refine lv_iload_n C0.1 C0.2.1 dX8_made_58 rfl (lv_at hl 0 rfl) ?_
  obtain ⟨i28, h⟩ := h
  obtain ⟨e29, h⟩ := h
  refine r_iald C0 hO i28 e29 dX8_made_59 ?_
  refine lv_i2l C0.1 C0.2.1 dX8_made_60 rfl ?_
  refine lv_aload_n C0.1 C0.2.1 dX8_made_61 rfl (lv_at hl 1 rfl) ?_
  obtain ⟨a30, ea30, h⟩ := h
  refine g8_0 C0 hO (sA_AJ (sA_AJ (sA_AI (sA_AI (sA_AI (sA_AI i1)))))) ea30 tb_1328 dX8_made_62 ?_
  refine lv_aload_n C0.1 C0.2.1 dX8_made_65 rfl (lv_at hl 1 rfl) ?_
  obtain ⟨a31, ea31, h⟩ := h
  refine g8_10 C0 hO (sA_AJ (sA_AJ (sA_AI (sA_AI (sA_AI (sA_AI i1)))))) ea31 tb_1338 dX8_made_66 ?_
  refine lv_iload_n C0.1 C0.2.1 dX8_made_69 rfl (lv_at hl 0 rfl) ?_
  obtain ⟨i32, h⟩ := h
  obtain ⟨e33, h⟩ := h
  refine r_iald C0 hO i32 e33 dX8_made_70 ?_
  obtain ⟨i34, h⟩ := h
  obtain ⟨e35, h⟩ := h
  refine r_lald C0 hO i34 e35 dX8_made_71 ?_
  refine lv_aload_n C0.1 C0.2.1 dX8_made_72 rfl (lv_at hl 1 rfl) ?_
  obtain ⟨a36, ea36, h⟩ := h
  refine g8_1 C0 hO (sA_AJ (sA_AJ (sA_AI (sA_AI (sA_AI (sA_AI i1)))))) ea36 tb_1329 dX8_made_73 ?_
  refine lv_aload_n C0.1 C0.2.1 dX8_made_76 rfl (lv_at hl 1 rfl) ?_
  obtain ⟨a37, ea37, h⟩ := h
  refine g8_10 C0 hO (sA_AJ (sA_AJ (sA_AI (sA_AI (sA_AI (sA_AI i1)))))) ea37 tb_1338 dX8_made_77 ?_
  refine lv_iload_n C0.1 C0.2.1 dX8_made_80 rfl (lv_at hl 0 rfl) ?_
  obtain ⟨i38, h⟩ := h
  obtain ⟨e39, h⟩ := h
  refine r_iald C0 hO i38 e39 dX8_made_81 ?_
  obtain ⟨i40, h⟩ := h
  obtain ⟨e41, h⟩ := h
  refine r_lald C0 hO i40 e41 dX8_made_82 ?_
  refine c_S C0 hO hS (mX8_floor h) tb_1494 tb_1495 tb_81 tb_1496 hd_X8_floor rfl ⟨⟨by decide, by decide⟩, by decide, by decide⟩ hl.1 rfl (Nat.le_of_ble_eq_true rfl) dX8_made_83 (kJ (fun r43 S42 H locs h hO hS => ?_))
  obtain ⟨i44, h⟩ := h
  obtain ⟨e45, h⟩ := h
  refine r_last C0 hO hS i44 e45 dX8_made_86 (fun H locs hO hS => ?_)
  have h := h _ rfl
  refine lv_iload_n C0.1 C0.2.1 dX8_made_87 rfl (lv_at hl 0 rfl) ?_
  exact e_I C0 Y hO hS h (Nat.le_refl _) (Nat.le_refl _) dX8_made_88
def wX8_made (S : Hp) (x0 : Nat) (Φ : Hp → Int32 → Prop) : Prop := wX8_made_b0 x0 Φ S
set_option maxRecDepth 100000 in
theorem mX8_made {l : Launch} {G : Gw} {S : Hp} {x0 : Nat} {Φ : Hp → Int32 → Prop} (h : wX8_made S x0 Φ) : gM l yX8_made cX8_made 2 (some .int) rm_X8_made [.ref x0] G S (PI Φ) := by
  unfold gM
  refine Met.ofW (cc := cX8_made) (maxL := 2) (ret := (some .int)) (by decide) rfl ?_
  intro p e s m args below meth c s₁ B hml hv
  obtain ⟨rfl, hw⟩ := hv
  obtain ⟨C0, Y, hO⟩ := mx_of B hml hw
  have hS : va_S (Ab G.b) s.heap s.heap [] := va_S.rf
  have hl := lv_entry ([.ref x0]) (n := 2) (Nat.le_of_ble_eq_true rfl)
  rw [lg_entry_eq]
  generalize (lg_sl ([.ref x0]) ++ List.replicate (2 - (lg_sl ([.ref x0])).length) Slot.unset).toArray = ls at hl ⊢
  have hl : lv_has ls 2 [(0, .ref x0)] := hl
  exact bX8_made_b0 C0 Y S _ _ _ h hO hS hl

def rm_X8_isKind : Room := { frames := 1, cells := 0, slots := 0, locals := 22 }
def wX8_isKind_b0 (x0 : Int32) (x1 : Int32) (x2 : Int32) (Φ : Hp → Int32 → Prop) (S : Hp) : Prop := ((x0 = 103 → wX8_isIn S x1 6 30 (fun S2 r3 => ((r3 = 0 → Φ S2 0) ∧ (¬ (r3 = 0) → wX8_isIn S2 x2 6 30 (fun S5 r6 => ((r6 = 0 → Φ S5 0) ∧ (¬ (r6 = 0) → Φ S5 1))))))) ∧ (¬ (x0 = 103) → ((x0 = 105 → wX8_isIn S x1 6 30 (fun S9 r10 => ((r10 = 0 → Φ S9 0) ∧ (¬ (r10 = 0) → wX8_isIn S9 x2 6 30 (fun S12 r13 => ((r13 = 0 → Φ S12 0) ∧ (¬ (r13 = 0) → Φ S12 1))))))) ∧ (¬ (x0 = 105) → ((x0 = 114 → wX8_isIn S x1 3 24 (fun S16 r17 => ((r17 = 0 → Φ S16 0) ∧ (¬ (r17 = 0) → ((¬ x2 = 0 → Φ S16 0) ∧ (x2 = 0 → Φ S16 1)))))) ∧ (¬ (x0 = 114) → ((x0 = 118 → wX8_isIn S x1 3 12 (fun S21 r22 => ((r22 = 0 → Φ S21 0) ∧ (¬ (r22 = 0) → ((¬ x2 = 0 → Φ S21 0) ∧ (x2 = 0 → Φ S21 1)))))) ∧ (¬ (x0 = 118) → ((¬ x0 = 107 → Φ S 0) ∧ (x0 = 107 → ((¬ x1 = 0 → Φ S 0) ∧ (x1 = 0 → ((¬ x2 = 0 → Φ S 0) ∧ (x2 = 0 → Φ S 1))))))))))))))
set_option maxHeartbeats 4000000 in
set_option maxRecDepth 100000 in
theorem bX8_isKind_b0 {p : Program} {l : Launch} {e : Env} {s : State} {m : MethodId} {args : Array Value} {below : List Frame} {meth : Method} {c : Code} {G : Gw} {x0 : Int32} {x1 : Int32} {x2 : Int32} {Φ : Hp → Int32 → Prop} (C0 : Mx p s m c cX8_isKind 3 args yX8_isKind.cls G) (Y : My meth (some .boolean))  : ∀ (S : Hp) (H : Heap) (locs : List Loc) (ls : Array Slot), wX8_isKind_b0 x0 x1 x2 Φ S → Ok G S H → va_S (Ab G.b) s.heap H locs → lv_has ls 3 [(0, .int x0), (1, .int x1), (2, .int x2)] → W p l e rm_X8_isKind s m args below meth c H locs 0 0 (MQ below (gQ G (PI Φ)) args s rm_X8_isKind.cells rm_X8_isKind.slots (Ab G.b)) (F0 m 0 ls []) := by
  intro S H locs ls h hO hS hl
  unfold wX8_isKind_b0 at h
  refine lv_iload_n C0.1 C0.2.1 dX8_isKind_0 rfl (lv_at hl 0 rfl) ?_
  refine lv_topi (fun y9 e9 => ?_)
  by_cases c1 : y9 = 103
  · have h := h.1 (e9.symm.trans c1)
    refine lv_lookup (tgt := 44) C0.1 C0.2.1 dX8_isKind_1 (by decide) (off := 43) (by rw [c1]; rfl) (by decide) ?_
    refine lv_iload_n C0.1 C0.2.1 dX8_isKind_44 rfl (lv_at hl 1 rfl) ?_
    refine lv_bipush (v := 6) C0.1 C0.2.1 dX8_isKind_45 (by decide) ?_
    refine lv_bipush (v := 30) C0.1 C0.2.1 dX8_isKind_47 (by decide) ?_
    refine c_S C0 hO hS (mX8_isIn h) tb_1463 tb_1464 tb_81 tb_1465 hd_X8_isIn rfl ⟨⟨by decide, by decide⟩, by decide, by decide⟩ hl.1 rfl (Nat.le_of_ble_eq_true rfl) dX8_isKind_49 (kI (fun r3 S2 H locs h hO hS => ?_))
    refine lv_if_eq (tgt := 70) C0.1 C0.2.1 dX8_isKind_52 (by decide) (fun c4 => ?_) (fun c4 => ?_)
    · have h := h.1 c4
      refine lv_iconst (v := 0) C0.1 C0.2.1 dX8_isKind_70 (by decide) ?_
      exact e_Z C0 Y hO hS rfl h (Nat.le_refl _) (Nat.le_refl _) dX8_isKind_71
    · have h := h.2 c4
      refine lv_iload_n C0.1 C0.2.1 dX8_isKind_55 rfl (lv_at hl 2 rfl) ?_
      refine lv_bipush (v := 6) C0.1 C0.2.1 dX8_isKind_56 (by decide) ?_
      refine lv_bipush (v := 30) C0.1 C0.2.1 dX8_isKind_58 (by decide) ?_
      refine c_S C0 hO hS (mX8_isIn h) tb_1463 tb_1464 tb_81 tb_1465 hd_X8_isIn rfl ⟨⟨by decide, by decide⟩, by decide, by decide⟩ hl.1 rfl (Nat.le_of_ble_eq_true rfl) dX8_isKind_60 (kI (fun r6 S5 H locs h hO hS => ?_))
      refine lv_if_eq (tgt := 70) C0.1 C0.2.1 dX8_isKind_63 (by decide) (fun c7 => ?_) (fun c7 => ?_)
      · have h := h.1 c7
        refine lv_iconst (v := 0) C0.1 C0.2.1 dX8_isKind_70 (by decide) ?_
        exact e_Z C0 Y hO hS rfl h (Nat.le_refl _) (Nat.le_refl _) dX8_isKind_71
      · have h := h.2 c7
        refine lv_iconst (v := 1) C0.1 C0.2.1 dX8_isKind_66 (by decide) ?_
        refine lv_goto (tgt := 71) C0.1 C0.2.1 dX8_isKind_67 (by decide) ?_
        exact e_Z C0 Y hO hS rfl h (Nat.le_refl _) (Nat.le_refl _) dX8_isKind_71
  · have h := h.2 (fun q9 => c1 (e9.trans q9))
    by_cases c8 : y9 = 105
    · have h := h.1 (e9.symm.trans c8)
      refine lv_lookup (tgt := 44) C0.1 C0.2.1 dX8_isKind_1 (by decide) (off := 43) (by rw [c8]; rfl) (by decide) ?_
      refine lv_iload_n C0.1 C0.2.1 dX8_isKind_44 rfl (lv_at hl 1 rfl) ?_
      refine lv_bipush (v := 6) C0.1 C0.2.1 dX8_isKind_45 (by decide) ?_
      refine lv_bipush (v := 30) C0.1 C0.2.1 dX8_isKind_47 (by decide) ?_
      refine c_S C0 hO hS (mX8_isIn h) tb_1463 tb_1464 tb_81 tb_1465 hd_X8_isIn rfl ⟨⟨by decide, by decide⟩, by decide, by decide⟩ hl.1 rfl (Nat.le_of_ble_eq_true rfl) dX8_isKind_49 (kI (fun r10 S9 H locs h hO hS => ?_))
      refine lv_if_eq (tgt := 70) C0.1 C0.2.1 dX8_isKind_52 (by decide) (fun c11 => ?_) (fun c11 => ?_)
      · have h := h.1 c11
        refine lv_iconst (v := 0) C0.1 C0.2.1 dX8_isKind_70 (by decide) ?_
        exact e_Z C0 Y hO hS rfl h (Nat.le_refl _) (Nat.le_refl _) dX8_isKind_71
      · have h := h.2 c11
        refine lv_iload_n C0.1 C0.2.1 dX8_isKind_55 rfl (lv_at hl 2 rfl) ?_
        refine lv_bipush (v := 6) C0.1 C0.2.1 dX8_isKind_56 (by decide) ?_
        refine lv_bipush (v := 30) C0.1 C0.2.1 dX8_isKind_58 (by decide) ?_
        refine c_S C0 hO hS (mX8_isIn h) tb_1463 tb_1464 tb_81 tb_1465 hd_X8_isIn rfl ⟨⟨by decide, by decide⟩, by decide, by decide⟩ hl.1 rfl (Nat.le_of_ble_eq_true rfl) dX8_isKind_60 (kI (fun r13 S12 H locs h hO hS => ?_))
        refine lv_if_eq (tgt := 70) C0.1 C0.2.1 dX8_isKind_63 (by decide) (fun c14 => ?_) (fun c14 => ?_)
        · have h := h.1 c14
          refine lv_iconst (v := 0) C0.1 C0.2.1 dX8_isKind_70 (by decide) ?_
          exact e_Z C0 Y hO hS rfl h (Nat.le_refl _) (Nat.le_refl _) dX8_isKind_71
        · have h := h.2 c14
          refine lv_iconst (v := 1) C0.1 C0.2.1 dX8_isKind_66 (by decide) ?_
          refine lv_goto (tgt := 71) C0.1 C0.2.1 dX8_isKind_67 (by decide) ?_
          exact e_Z C0 Y hO hS rfl h (Nat.le_refl _) (Nat.le_refl _) dX8_isKind_71
    · have h := h.2 (fun q9 => c8 (e9.trans q9))
      by_cases c15 : y9 = 114
      · have h := h.1 (e9.symm.trans c15)
        refine lv_lookup (tgt := 92) C0.1 C0.2.1 dX8_isKind_1 (by decide) (off := 91) (by rw [c15]; rfl) (by decide) ?_
        refine lv_iload_n C0.1 C0.2.1 dX8_isKind_92 rfl (lv_at hl 1 rfl) ?_
        refine lv_iconst (v := 3) C0.1 C0.2.1 dX8_isKind_93 (by decide) ?_
        refine lv_bipush (v := 24) C0.1 C0.2.1 dX8_isKind_94 (by decide) ?_
        refine c_S C0 hO hS (mX8_isIn h) tb_1463 tb_1464 tb_81 tb_1465 hd_X8_isIn rfl ⟨⟨by decide, by decide⟩, by decide, by decide⟩ hl.1 rfl (Nat.le_of_ble_eq_true rfl) dX8_isKind_96 (kI (fun r17 S16 H locs h hO hS => ?_))
        refine lv_if_eq (tgt := 110) C0.1 C0.2.1 dX8_isKind_99 (by decide) (fun c18 => ?_) (fun c18 => ?_)
        · have h := h.1 c18
          refine lv_iconst (v := 0) C0.1 C0.2.1 dX8_isKind_110 (by decide) ?_
          exact e_Z C0 Y hO hS rfl h (Nat.le_refl _) (Nat.le_refl _) dX8_isKind_111
        · have h := h.2 c18
          refine lv_iload_n C0.1 C0.2.1 dX8_isKind_102 rfl (lv_at hl 2 rfl) ?_
          refine lv_if_ne (tgt := 110) C0.1 C0.2.1 dX8_isKind_103 (by decide) (fun c19 => ?_) (fun c19 => ?_)
          · have h := h.1 c19
            refine lv_iconst (v := 0) C0.1 C0.2.1 dX8_isKind_110 (by decide) ?_
            exact e_Z C0 Y hO hS rfl h (Nat.le_refl _) (Nat.le_refl _) dX8_isKind_111
          · have h := h.2 c19
            refine lv_iconst (v := 1) C0.1 C0.2.1 dX8_isKind_106 (by decide) ?_
            refine lv_goto (tgt := 111) C0.1 C0.2.1 dX8_isKind_107 (by decide) ?_
            exact e_Z C0 Y hO hS rfl h (Nat.le_refl _) (Nat.le_refl _) dX8_isKind_111
      · have h := h.2 (fun q9 => c15 (e9.trans q9))
        by_cases c20 : y9 = 118
        · have h := h.1 (e9.symm.trans c20)
          refine lv_lookup (tgt := 72) C0.1 C0.2.1 dX8_isKind_1 (by decide) (off := 71) (by rw [c20]; rfl) (by decide) ?_
          refine lv_iload_n C0.1 C0.2.1 dX8_isKind_72 rfl (lv_at hl 1 rfl) ?_
          refine lv_iconst (v := 3) C0.1 C0.2.1 dX8_isKind_73 (by decide) ?_
          refine lv_bipush (v := 12) C0.1 C0.2.1 dX8_isKind_74 (by decide) ?_
          refine c_S C0 hO hS (mX8_isIn h) tb_1463 tb_1464 tb_81 tb_1465 hd_X8_isIn rfl ⟨⟨by decide, by decide⟩, by decide, by decide⟩ hl.1 rfl (Nat.le_of_ble_eq_true rfl) dX8_isKind_76 (kI (fun r22 S21 H locs h hO hS => ?_))
          refine lv_if_eq (tgt := 90) C0.1 C0.2.1 dX8_isKind_79 (by decide) (fun c23 => ?_) (fun c23 => ?_)
          · have h := h.1 c23
            refine lv_iconst (v := 0) C0.1 C0.2.1 dX8_isKind_90 (by decide) ?_
            exact e_Z C0 Y hO hS rfl h (Nat.le_refl _) (Nat.le_refl _) dX8_isKind_91
          · have h := h.2 c23
            refine lv_iload_n C0.1 C0.2.1 dX8_isKind_82 rfl (lv_at hl 2 rfl) ?_
            refine lv_if_ne (tgt := 90) C0.1 C0.2.1 dX8_isKind_83 (by decide) (fun c24 => ?_) (fun c24 => ?_)
            · have h := h.1 c24
              refine lv_iconst (v := 0) C0.1 C0.2.1 dX8_isKind_90 (by decide) ?_
              exact e_Z C0 Y hO hS rfl h (Nat.le_refl _) (Nat.le_refl _) dX8_isKind_91
            · have h := h.2 c24
              refine lv_iconst (v := 1) C0.1 C0.2.1 dX8_isKind_86 (by decide) ?_
              refine lv_goto (tgt := 91) C0.1 C0.2.1 dX8_isKind_87 (by decide) ?_
              exact e_Z C0 Y hO hS rfl h (Nat.le_refl _) (Nat.le_refl _) dX8_isKind_91
        · have h := h.2 (fun q9 => c20 (e9.trans q9))
          refine lv_lookup (tgt := 112) C0.1 C0.2.1 dX8_isKind_1 (by decide) (off := 111) (by rw [lv_osw c1 (by decide)]; rw [lv_osw c8 (by decide)]; rw [lv_osw c15 (by decide)]; rw [lv_osw c20 (by decide)]; rfl) (by decide) ?_
          refine lv_iload_n C0.1 C0.2.1 dX8_isKind_112 rfl (lv_at hl 0 rfl) ?_
          refine lv_bipush (v := 107) C0.1 C0.2.1 dX8_isKind_113 (by decide) ?_
          refine lv_icmp_ne (tgt := 130) C0.1 C0.2.1 dX8_isKind_115 (by decide) (fun c25 => ?_) (fun c25 => ?_)
          · have h := h.1 c25
            refine lv_iconst (v := 0) C0.1 C0.2.1 dX8_isKind_130 (by decide) ?_
            exact e_Z C0 Y hO hS rfl h (Nat.le_refl _) (Nat.le_refl _) dX8_isKind_131
          · have h := h.2 c25
            refine lv_iload_n C0.1 C0.2.1 dX8_isKind_118 rfl (lv_at hl 1 rfl) ?_
            refine lv_if_ne (tgt := 130) C0.1 C0.2.1 dX8_isKind_119 (by decide) (fun c26 => ?_) (fun c26 => ?_)
            · have h := h.1 c26
              refine lv_iconst (v := 0) C0.1 C0.2.1 dX8_isKind_130 (by decide) ?_
              exact e_Z C0 Y hO hS rfl h (Nat.le_refl _) (Nat.le_refl _) dX8_isKind_131
            · have h := h.2 c26
              refine lv_iload_n C0.1 C0.2.1 dX8_isKind_122 rfl (lv_at hl 2 rfl) ?_
              refine lv_if_ne (tgt := 130) C0.1 C0.2.1 dX8_isKind_123 (by decide) (fun c27 => ?_) (fun c27 => ?_)
              · have h := h.1 c27
                refine lv_iconst (v := 0) C0.1 C0.2.1 dX8_isKind_130 (by decide) ?_
                exact e_Z C0 Y hO hS rfl h (Nat.le_refl _) (Nat.le_refl _) dX8_isKind_131
              · have h := h.2 c27
                refine lv_iconst (v := 1) C0.1 C0.2.1 dX8_isKind_126 (by decide) ?_
                refine lv_goto (tgt := 131) C0.1 C0.2.1 dX8_isKind_127 (by decide) ?_
                exact e_Z C0 Y hO hS rfl h (Nat.le_refl _) (Nat.le_refl _) dX8_isKind_131
def wX8_isKind (S : Hp) (x0 : Int32) (x1 : Int32) (x2 : Int32) (Φ : Hp → Int32 → Prop) : Prop := wX8_isKind_b0 x0 x1 x2 Φ S
set_option maxRecDepth 100000 in
theorem mX8_isKind {l : Launch} {G : Gw} {S : Hp} {x0 : Int32} {x1 : Int32} {x2 : Int32} {Φ : Hp → Int32 → Prop} (h : wX8_isKind S x0 x1 x2 Φ) : gM l yX8_isKind cX8_isKind 3 (some .boolean) rm_X8_isKind [.int x0, .int x1, .int x2] G S (PI Φ) := by
  unfold gM
  refine Met.ofW (cc := cX8_isKind) (maxL := 3) (ret := (some .boolean)) (by decide) rfl ?_
  intro p e s m args below meth c s₁ B hml hv
  obtain ⟨rfl, hw⟩ := hv
  obtain ⟨C0, Y, hO⟩ := mx_of B hml hw
  have hS : va_S (Ab G.b) s.heap s.heap [] := va_S.rf
  have hl := lv_entry ([.int x0, .int x1, .int x2]) (n := 3) (Nat.le_of_ble_eq_true rfl)
  rw [lg_entry_eq]
  generalize (lg_sl ([.int x0, .int x1, .int x2]) ++ List.replicate (3 - (lg_sl ([.int x0, .int x1, .int x2])).length) Slot.unset).toArray = ls at hl ⊢
  have hl : lv_has ls 3 [(0, .int x0), (1, .int x1), (2, .int x2)] := hl
  exact bX8_isKind_b0 C0 Y S _ _ _ h hO hS hl

def rm_X8_link : Room := { frames := 24, cells := 0, slots := 0, locals := 552 }
def wX8_link_b92 (x0 : Nat) (x1 : Int32) (x2 : Int32) (x3 : Int32) (x4 : Int32) (x5 : Int32) (Φ : Hp → Int32 → Prop) (S : Hp) (v6 : Int32) (z0 : Nat) (z1 : Int32) : Prop := isA S z0 8 ∧ wX8_isThrown S z0 z1 3 (fun S1 r2 => ((¬ r2 = 0 → Φ S1 0) ∧ (r2 = 0 → isA S1 x0 8 ∧ wX8_isThrown S1 x0 v6 4 (fun S5 r6 => ((r6 = 0 → isA S5 x0 8 ∧ wX8_made S5 x0 (fun S9 r10 => Φ S9 r10)) ∧ (¬ (r6 = 0) → Φ S5 0))))))
set_option maxHeartbeats 4000000 in
set_option maxRecDepth 100000 in
theorem bX8_link_b92 {p : Program} {l : Launch} {e : Env} {s : State} {m : MethodId} {args : Array Value} {below : List Frame} {meth : Method} {c : Code} {G : Gw} {x0 : Nat} {x1 : Int32} {x2 : Int32} {x3 : Int32} {x4 : Int32} {x5 : Int32} {Φ : Hp → Int32 → Prop} (C0 : Mx p s m c cX8_link 7 args yX8_link.cls G) (Y : My meth (some .int))  : ∀ (S : Hp) (v6 : Int32) (z0 : Nat) (z1 : Int32) (H : Heap) (locs : List Loc) (ls : Array Slot), wX8_link_b92 x0 x1 x2 x3 x4 x5 Φ S v6 z0 z1 → Ok G S H → va_S (Ab G.b) s.heap H locs → lv_has ls 7 [(0, .ref x0), (1, .int x1), (2, .int x2), (3, .int x3), (4, .int x4), (5, .int x5), (6, .int v6)] → W p l e rm_X8_link s m args below meth c H locs 0 0 (MQ below (gQ G (PI Φ)) args s rm_X8_link.cells rm_X8_link.slots (Ab G.b)) (F0 m 92 ls [.int z1, .ref z0]) := by
  intro S v6 z0 z1 H locs ls h hO hS hl
  unfold wX8_link_b92 at h
  refine lv_iconst (v := 3) C0.1 C0.2.1 dX8_link_92 (by decide) ?_
  obtain ⟨i3, h⟩ := h
  refine c_V C0 hO hS (mX8_isThrown h) i3 (by decide) rfl rfl tb_1451 tb_1453 tb_37 tb_81 tb_1454 hd_X8_isThrown rfl ⟨⟨by decide, by decide⟩, by decide, by decide⟩ hl.1 rfl (Nat.le_of_ble_eq_true rfl) dX8_link_93 (kI (fun r2 S1 H locs h hO hS => ?_))
  refine lv_if_ne (tgt := 109) C0.1 C0.2.1 dX8_link_96 (by decide) (fun c4 => ?_) (fun c4 => ?_)
  · have h := h.1 c4
    refine lv_iconst (v := 0) C0.1 C0.2.1 dX8_link_109 (by decide) ?_
    exact e_I C0 Y hO hS h (Nat.le_refl _) (Nat.le_refl _) dX8_link_110
  · have h := h.2 c4
    refine lv_aload_n C0.1 C0.2.1 dX8_link_99 rfl (lv_at hl 0 rfl) ?_
    refine lv_iload C0.1 C0.2.1 dX8_link_100 (lv_at hl 6 rfl) ?_
    refine lv_iconst (v := 4) C0.1 C0.2.1 dX8_link_102 (by decide) ?_
    obtain ⟨i7, h⟩ := h
    refine c_V C0 hO hS (mX8_isThrown h) i7 (by decide) rfl rfl tb_1451 tb_1453 tb_37 tb_81 tb_1454 hd_X8_isThrown rfl ⟨⟨by decide, by decide⟩, by decide, by decide⟩ hl.1 rfl (Nat.le_of_ble_eq_true rfl) dX8_link_103 (kI (fun r6 S5 H locs h hO hS => ?_))
    refine lv_if_eq (tgt := 111) C0.1 C0.2.1 dX8_link_106 (by decide) (fun c8 => ?_) (fun c8 => ?_)
    · have h := h.1 c8
      refine lv_aload_n C0.1 C0.2.1 dX8_link_111 rfl (lv_at hl 0 rfl) ?_
      obtain ⟨i11, h⟩ := h
      refine c_V C0 hO hS (mX8_made h) i11 (by decide) rfl rfl tb_1490 tb_1492 tb_44 tb_81 tb_1493 hd_X8_made rfl ⟨⟨by decide, by decide⟩, by decide, by decide⟩ hl.1 rfl (Nat.le_of_ble_eq_true rfl) dX8_link_112 (kI (fun r10 S9 H locs h hO hS => ?_))
      exact e_I C0 Y hO hS h (Nat.le_refl _) (Nat.le_refl _) dX8_link_115
    · have h := h.2 c8
      refine lv_iconst (v := 0) C0.1 C0.2.1 dX8_link_109 (by decide) ?_
      exact e_I C0 Y hO hS h (Nat.le_refl _) (Nat.le_refl _) dX8_link_110
def wX8_link_b69 (x0 : Nat) (x1 : Int32) (x2 : Int32) (x3 : Int32) (x4 : Int32) (x5 : Int32) (Φ : Hp → Int32 → Prop) (S : Hp) (z0 : Int32) : Prop := isA S x0 8 ∧ wX8_isAdded S x0 x1 x2 (-1) x3 x4 x5 (fun S1 r2 => ((¬ r2 = 0 → wX8_link_b92 x0 x1 x2 x3 x4 x5 Φ S1 z0 x0 0) ∧ (r2 = 0 → wX8_link_b92 x0 x1 x2 x3 x4 x5 Φ S1 z0 x0 1)))
set_option maxHeartbeats 4000000 in
set_option maxRecDepth 100000 in
theorem bX8_link_b69 {p : Program} {l : Launch} {e : Env} {s : State} {m : MethodId} {args : Array Value} {below : List Frame} {meth : Method} {c : Code} {G : Gw} {x0 : Nat} {x1 : Int32} {x2 : Int32} {x3 : Int32} {x4 : Int32} {x5 : Int32} {Φ : Hp → Int32 → Prop} (C0 : Mx p s m c cX8_link 7 args yX8_link.cls G) (Y : My meth (some .int))  : ∀ (S : Hp) (z0 : Int32) (H : Heap) (locs : List Loc) (ls : Array Slot), wX8_link_b69 x0 x1 x2 x3 x4 x5 Φ S z0 → Ok G S H → va_S (Ab G.b) s.heap H locs → lv_has ls 7 [(0, .ref x0), (1, .int x1), (2, .int x2), (3, .int x3), (4, .int x4), (5, .int x5)] → W p l e rm_X8_link s m args below meth c H locs 0 0 (MQ below (gQ G (PI Φ)) args s rm_X8_link.cells rm_X8_link.slots (Ab G.b)) (F0 m 69 ls [.int z0]) := by
  intro S z0 H locs ls h hO hS hl
  unfold wX8_link_b69 at h
  refine lv_istore C0.1 C0.2.1 dX8_link_69 hl (by decide) rfl (fun ls hl => ?_)
  refine lv_aload_n C0.1 C0.2.1 dX8_link_71 rfl (lv_at hl 1 rfl) ?_
  refine lv_aload_n C0.1 C0.2.1 dX8_link_72 rfl (lv_at hl 1 rfl) ?_
  refine lv_iload_n C0.1 C0.2.1 dX8_link_73 rfl (lv_at hl 2 rfl) ?_
  refine lv_iload_n C0.1 C0.2.1 dX8_link_74 rfl (lv_at hl 3 rfl) ?_
  refine lv_iconst (v := (-1)) C0.1 C0.2.1 dX8_link_75 (by decide) ?_
  refine lv_iload_n C0.1 C0.2.1 dX8_link_76 rfl (lv_at hl 4 rfl) ?_
  refine lv_iload C0.1 C0.2.1 dX8_link_77 (lv_at hl 5 rfl) ?_
  refine lv_iload C0.1 C0.2.1 dX8_link_79 (lv_at hl 6 rfl) ?_
  obtain ⟨i3, h⟩ := h
  refine c_V C0 hO hS (mX8_isAdded h) i3 (by decide) rfl rfl tb_1469 tb_1471 tb_39 tb_81 tb_1472 hd_X8_isAdded rfl ⟨⟨by decide, by decide⟩, by decide, by decide⟩ hl.1 rfl (Nat.le_of_ble_eq_true rfl) dX8_link_81 (kI (fun r2 S1 H locs h hO hS => ?_))
  refine lv_if_ne (tgt := 91) C0.1 C0.2.1 dX8_link_84 (by decide) (fun c4 => ?_) (fun c4 => ?_)
  · have h := h.1 c4
    refine lv_iconst (v := 0) C0.1 C0.2.1 dX8_link_91 (by decide) ?_
    exact bX8_link_b92 C0 Y _ _ _ _ _ _ _ h hO hS (lv_sub hl [1, 2, 3, 4, 5, 6, 0] rfl)
  · have h := h.2 c4
    refine lv_iconst (v := 1) C0.1 C0.2.1 dX8_link_87 (by decide) ?_
    refine lv_goto (tgt := 92) C0.1 C0.2.1 dX8_link_88 (by decide) ?_
    exact bX8_link_b92 C0 Y _ _ _ _ _ _ _ h hO hS (lv_sub hl [1, 2, 3, 4, 5, 6, 0] rfl)
def wX8_link_b46 (x0 : Nat) (x1 : Int32) (x2 : Int32) (x3 : Int32) (x4 : Int32) (x5 : Int32) (Φ : Hp → Int32 → Prop) (S : Hp) (z0 : Nat) (z1 : Int32) : Prop := isA S z0 8 ∧ wX8_isThrown S z0 z1 2 (fun S1 r2 => ((r2 = 0 → isA S1 x0 8 ∧ ((¬ (S1.FI 544 x0) = 16 → wX8_link_b69 x0 x1 x2 x3 x4 x5 Φ S1 0) ∧ ((S1.FI 544 x0) = 16 → wX8_link_b69 x0 x1 x2 x3 x4 x5 Φ S1 1))) ∧ (¬ (r2 = 0) → Φ S1 0)))
set_option maxHeartbeats 4000000 in
set_option maxRecDepth 100000 in
theorem bX8_link_b46 {p : Program} {l : Launch} {e : Env} {s : State} {m : MethodId} {args : Array Value} {below : List Frame} {meth : Method} {c : Code} {G : Gw} {x0 : Nat} {x1 : Int32} {x2 : Int32} {x3 : Int32} {x4 : Int32} {x5 : Int32} {Φ : Hp → Int32 → Prop} (C0 : Mx p s m c cX8_link 7 args yX8_link.cls G) (Y : My meth (some .int))  : ∀ (S : Hp) (z0 : Nat) (z1 : Int32) (H : Heap) (locs : List Loc) (ls : Array Slot), wX8_link_b46 x0 x1 x2 x3 x4 x5 Φ S z0 z1 → Ok G S H → va_S (Ab G.b) s.heap H locs → lv_has ls 7 [(0, .ref x0), (1, .int x1), (2, .int x2), (3, .int x3), (4, .int x4), (5, .int x5)] → W p l e rm_X8_link s m args below meth c H locs 0 0 (MQ below (gQ G (PI Φ)) args s rm_X8_link.cells rm_X8_link.slots (Ab G.b)) (F0 m 46 ls [.int z1, .ref z0]) := by
  intro S z0 z1 H locs ls h hO hS hl
  unfold wX8_link_b46 at h
  refine lv_iconst (v := 2) C0.1 C0.2.1 dX8_link_46 (by decide) ?_
  obtain ⟨i3, h⟩ := h
  refine c_V C0 hO hS (mX8_isThrown h) i3 (by decide) rfl rfl tb_1451 tb_1453 tb_37 tb_81 tb_1454 hd_X8_isThrown rfl ⟨⟨by decide, by decide⟩, by decide, by decide⟩ hl.1 rfl (Nat.le_of_ble_eq_true rfl) dX8_link_47 (kI (fun r2 S1 H locs h hO hS => ?_))
  refine lv_if_eq (tgt := 55) C0.1 C0.2.1 dX8_link_50 (by decide) (fun c4 => ?_) (fun c4 => ?_)
  · have h := h.1 c4
    refine lv_aload_n C0.1 C0.2.1 dX8_link_55 rfl (lv_at hl 0 rfl) ?_
    obtain ⟨i5, h⟩ := h
    refine g8_32 C0 hO i5 tb_1360 dX8_link_56 ?_
    refine lv_bipush (v := 16) C0.1 C0.2.1 dX8_link_59 (by decide) ?_
    refine lv_icmp_ne (tgt := 68) C0.1 C0.2.1 dX8_link_61 (by decide) (fun c6 => ?_) (fun c6 => ?_)
    · have h := h.1 c6
      refine lv_iconst (v := 0) C0.1 C0.2.1 dX8_link_68 (by decide) ?_
      exact bX8_link_b69 C0 Y _ _ _ _ _ h hO hS (lv_sub hl [0, 1, 2, 3, 4, 5] rfl)
    · have h := h.2 c6
      refine lv_iconst (v := 1) C0.1 C0.2.1 dX8_link_64 (by decide) ?_
      refine lv_goto (tgt := 69) C0.1 C0.2.1 dX8_link_65 (by decide) ?_
      exact bX8_link_b69 C0 Y _ _ _ _ _ h hO hS (lv_sub hl [0, 1, 2, 3, 4, 5] rfl)
  · have h := h.2 c4
    refine lv_iconst (v := 0) C0.1 C0.2.1 dX8_link_53 (by decide) ?_
    exact e_I C0 Y hO hS h (Nat.le_refl _) (Nat.le_refl _) dX8_link_54
def wX8_link_b22 (x0 : Nat) (x1 : Int32) (x2 : Int32) (x3 : Int32) (x4 : Int32) (x5 : Int32) (Φ : Hp → Int32 → Prop) (S : Hp) (z0 : Nat) (z1 : Int32) : Prop := isA S z0 8 ∧ wX8_isThrown S z0 z1 1 (fun S1 r2 => ((¬ r2 = 0 → Φ S1 0) ∧ (r2 = 0 → wX8_isKind S1 x1 x4 x5 (fun S5 r6 => ((¬ r6 = 0 → wX8_link_b46 x0 x1 x2 x3 x4 x5 Φ S5 x0 0) ∧ (r6 = 0 → wX8_link_b46 x0 x1 x2 x3 x4 x5 Φ S5 x0 1))))))
set_option maxHeartbeats 4000000 in
set_option maxRecDepth 100000 in
theorem bX8_link_b22 {p : Program} {l : Launch} {e : Env} {s : State} {m : MethodId} {args : Array Value} {below : List Frame} {meth : Method} {c : Code} {G : Gw} {x0 : Nat} {x1 : Int32} {x2 : Int32} {x3 : Int32} {x4 : Int32} {x5 : Int32} {Φ : Hp → Int32 → Prop} (C0 : Mx p s m c cX8_link 7 args yX8_link.cls G) (Y : My meth (some .int))  : ∀ (S : Hp) (z0 : Nat) (z1 : Int32) (H : Heap) (locs : List Loc) (ls : Array Slot), wX8_link_b22 x0 x1 x2 x3 x4 x5 Φ S z0 z1 → Ok G S H → va_S (Ab G.b) s.heap H locs → lv_has ls 7 [(0, .ref x0), (1, .int x1), (2, .int x2), (3, .int x3), (4, .int x4), (5, .int x5)] → W p l e rm_X8_link s m args below meth c H locs 0 0 (MQ below (gQ G (PI Φ)) args s rm_X8_link.cells rm_X8_link.slots (Ab G.b)) (F0 m 22 ls [.int z1, .ref z0]) := by
  intro S z0 z1 H locs ls h hO hS hl
  unfold wX8_link_b22 at h
  refine lv_iconst (v := 1) C0.1 C0.2.1 dX8_link_22 (by decide) ?_
  obtain ⟨i3, h⟩ := h
  refine c_V C0 hO hS (mX8_isThrown h) i3 (by decide) rfl rfl tb_1451 tb_1453 tb_37 tb_81 tb_1454 hd_X8_isThrown rfl ⟨⟨by decide, by decide⟩, by decide, by decide⟩ hl.1 rfl (Nat.le_of_ble_eq_true rfl) dX8_link_23 (kI (fun r2 S1 H locs h hO hS => ?_))
  refine lv_if_ne (tgt := 53) C0.1 C0.2.1 dX8_link_26 (by decide) (fun c4 => ?_) (fun c4 => ?_)
  · have h := h.1 c4
    refine lv_iconst (v := 0) C0.1 C0.2.1 dX8_link_53 (by decide) ?_
    exact e_I C0 Y hO hS h (Nat.le_refl _) (Nat.le_refl _) dX8_link_54
  · have h := h.2 c4
    refine lv_aload_n C0.1 C0.2.1 dX8_link_29 rfl (lv_at hl 0 rfl) ?_
    refine lv_iload_n C0.1 C0.2.1 dX8_link_30 rfl (lv_at hl 1 rfl) ?_
    refine lv_iload C0.1 C0.2.1 dX8_link_31 (lv_at hl 4 rfl) ?_
    refine lv_iload C0.1 C0.2.1 dX8_link_33 (lv_at hl 5 rfl) ?_
    refine c_S C0 hO hS (mX8_isKind h) tb_1466 tb_1467 tb_81 tb_1468 hd_X8_isKind rfl ⟨⟨by decide, by decide⟩, by decide, by decide⟩ hl.1 rfl (Nat.le_of_ble_eq_true rfl) dX8_link_35 (kI (fun r6 S5 H locs h hO hS => ?_))
    refine lv_if_ne (tgt := 45) C0.1 C0.2.1 dX8_link_38 (by decide) (fun c7 => ?_) (fun c7 => ?_)
    · have h := h.1 c7
      refine lv_iconst (v := 0) C0.1 C0.2.1 dX8_link_45 (by decide) ?_
      exact bX8_link_b46 C0 Y _ _ _ _ _ _ h hO hS (lv_sub hl [0, 1, 2, 3, 4, 5] rfl)
    · have h := h.2 c7
      refine lv_iconst (v := 1) C0.1 C0.2.1 dX8_link_41 (by decide) ?_
      refine lv_goto (tgt := 46) C0.1 C0.2.1 dX8_link_42 (by decide) ?_
      exact bX8_link_b46 C0 Y _ _ _ _ _ _ h hO hS (lv_sub hl [0, 1, 2, 3, 4, 5] rfl)
def wX8_link_b17 (x0 : Nat) (x1 : Int32) (x2 : Int32) (x3 : Int32) (x4 : Int32) (x5 : Int32) (Φ : Hp → Int32 → Prop) (S : Hp) (z0 : Nat) : Prop := wX8_link_b22 x0 x1 x2 x3 x4 x5 Φ S z0 1
set_option maxHeartbeats 4000000 in
set_option maxRecDepth 100000 in
theorem bX8_link_b17 {p : Program} {l : Launch} {e : Env} {s : State} {m : MethodId} {args : Array Value} {below : List Frame} {meth : Method} {c : Code} {G : Gw} {x0 : Nat} {x1 : Int32} {x2 : Int32} {x3 : Int32} {x4 : Int32} {x5 : Int32} {Φ : Hp → Int32 → Prop} (C0 : Mx p s m c cX8_link 7 args yX8_link.cls G) (Y : My meth (some .int))  : ∀ (S : Hp) (z0 : Nat) (H : Heap) (locs : List Loc) (ls : Array Slot), wX8_link_b17 x0 x1 x2 x3 x4 x5 Φ S z0 → Ok G S H → va_S (Ab G.b) s.heap H locs → lv_has ls 7 [(0, .ref x0), (1, .int x1), (2, .int x2), (3, .int x3), (4, .int x4), (5, .int x5)] → W p l e rm_X8_link s m args below meth c H locs 0 0 (MQ below (gQ G (PI Φ)) args s rm_X8_link.cells rm_X8_link.slots (Ab G.b)) (F0 m 17 ls [.ref z0]) := by
  intro S z0 H locs ls h hO hS hl
  unfold wX8_link_b17 at h
  refine lv_iconst (v := 1) C0.1 C0.2.1 dX8_link_17 (by decide) ?_
  refine lv_goto (tgt := 22) C0.1 C0.2.1 dX8_link_18 (by decide) ?_
  exact bX8_link_b22 C0 Y _ _ _ _ _ _ h hO hS (lv_sub hl [0, 1, 2, 3, 4, 5] rfl)
def wX8_link_b0 (x0 : Nat) (x1 : Int32) (x2 : Int32) (x3 : Int32) (x4 : Int32) (x5 : Int32) (Φ : Hp → Int32 → Prop) (S : Hp) : Prop := isA S x0 8 ∧ wX8_isNoShaft S x0 x2 (fun S1 r2 => ((¬ r2 = 0 → wX8_link_b17 x0 x1 x2 x3 x4 x5 Φ S1 x0) ∧ (r2 = 0 → isA S1 x0 8 ∧ wX8_isNoShaft S1 x0 x3 (fun S5 r6 => ((r6 = 0 → wX8_link_b22 x0 x1 x2 x3 x4 x5 Φ S5 x0 0) ∧ (¬ (r6 = 0) → wX8_link_b17 x0 x1 x2 x3 x4 x5 Φ S5 x0))))))
set_option maxHeartbeats 4000000 in
set_option maxRecDepth 100000 in
theorem bX8_link_b0 {p : Program} {l : Launch} {e : Env} {s : State} {m : MethodId} {args : Array Value} {below : List Frame} {meth : Method} {c : Code} {G : Gw} {x0 : Nat} {x1 : Int32} {x2 : Int32} {x3 : Int32} {x4 : Int32} {x5 : Int32} {Φ : Hp → Int32 → Prop} (C0 : Mx p s m c cX8_link 7 args yX8_link.cls G) (Y : My meth (some .int))  : ∀ (S : Hp) (H : Heap) (locs : List Loc) (ls : Array Slot), wX8_link_b0 x0 x1 x2 x3 x4 x5 Φ S → Ok G S H → va_S (Ab G.b) s.heap H locs → lv_has ls 7 [(0, .ref x0), (1, .int x1), (2, .int x2), (3, .int x3), (4, .int x4), (5, .int x5)] → W p l e rm_X8_link s m args below meth c H locs 0 0 (MQ below (gQ G (PI Φ)) args s rm_X8_link.cells rm_X8_link.slots (Ab G.b)) (F0 m 0 ls []) := by
  intro S H locs ls h hO hS hl
  unfold wX8_link_b0 at h
  refine lv_aload_n C0.1 C0.2.1 dX8_link_0 rfl (lv_at hl 0 rfl) ?_
  refine lv_aload_n C0.1 C0.2.1 dX8_link_1 rfl (lv_at hl 0 rfl) ?_
  refine lv_iload_n C0.1 C0.2.1 dX8_link_2 rfl (lv_at hl 2 rfl) ?_
  obtain ⟨i3, h⟩ := h
  refine c_V C0 hO hS (mX8_isNoShaft h) i3 (by decide) rfl rfl tb_1459 tb_1461 tb_38 tb_81 tb_1462 hd_X8_isNoShaft rfl ⟨⟨by decide, by decide⟩, by decide, by decide⟩ hl.1 rfl (Nat.le_of_ble_eq_true rfl) dX8_link_3 (kI (fun r2 S1 H locs h hO hS => ?_))
  refine lv_if_ne (tgt := 17) C0.1 C0.2.1 dX8_link_6 (by decide) (fun c4 => ?_) (fun c4 => ?_)
  · have h := h.1 c4
    exact bX8_link_b17 C0 Y _ _ _ _ _ h hO hS (lv_sub hl [0, 1, 2, 3, 4, 5] rfl)
  · have h := h.2 c4
    refine lv_aload_n C0.1 C0.2.1 dX8_link_9 rfl (lv_at hl 0 rfl) ?_
    refine lv_iload_n C0.1 C0.2.1 dX8_link_10 rfl (lv_at hl 3 rfl) ?_
    obtain ⟨i7, h⟩ := h
    refine c_V C0 hO hS (mX8_isNoShaft h) i7 (by decide) rfl rfl tb_1459 tb_1461 tb_38 tb_81 tb_1462 hd_X8_isNoShaft rfl ⟨⟨by decide, by decide⟩, by decide, by decide⟩ hl.1 rfl (Nat.le_of_ble_eq_true rfl) dX8_link_11 (kI (fun r6 S5 H locs h hO hS => ?_))
    refine lv_if_eq (tgt := 21) C0.1 C0.2.1 dX8_link_14 (by decide) (fun c8 => ?_) (fun c8 => ?_)
    · have h := h.1 c8
      refine lv_iconst (v := 0) C0.1 C0.2.1 dX8_link_21 (by decide) ?_
      exact bX8_link_b22 C0 Y _ _ _ _ _ _ h hO hS (lv_sub hl [0, 1, 2, 3, 4, 5] rfl)
    · have h := h.2 c8
      exact bX8_link_b17 C0 Y _ _ _ _ _ h hO hS (lv_sub hl [0, 1, 2, 3, 4, 5] rfl)
def wX8_link (S : Hp) (x0 : Nat) (x1 : Int32) (x2 : Int32) (x3 : Int32) (x4 : Int32) (x5 : Int32) (Φ : Hp → Int32 → Prop) : Prop := wX8_link_b0 x0 x1 x2 x3 x4 x5 Φ S
set_option maxRecDepth 100000 in
theorem mX8_link {l : Launch} {G : Gw} {S : Hp} {x0 : Nat} {x1 : Int32} {x2 : Int32} {x3 : Int32} {x4 : Int32} {x5 : Int32} {Φ : Hp → Int32 → Prop} (h : wX8_link S x0 x1 x2 x3 x4 x5 Φ) : gM l yX8_link cX8_link 7 (some .int) rm_X8_link [.ref x0, .int x1, .int x2, .int x3, .int x4, .int x5] G S (PI Φ) := by
  unfold gM
  refine Met.ofW (cc := cX8_link) (maxL := 7) (ret := (some .int)) (by decide) rfl ?_
  intro p e s m args below meth c s₁ B hml hv
  obtain ⟨rfl, hw⟩ := hv
  obtain ⟨C0, Y, hO⟩ := mx_of B hml hw
  have hS : va_S (Ab G.b) s.heap s.heap [] := va_S.rf
  have hl := lv_entry ([.ref x0, .int x1, .int x2, .int x3, .int x4, .int x5]) (n := 7) (Nat.le_of_ble_eq_true rfl)
  rw [lg_entry_eq]
  generalize (lg_sl ([.ref x0, .int x1, .int x2, .int x3, .int x4, .int x5]) ++ List.replicate (7 - (lg_sl ([.ref x0, .int x1, .int x2, .int x3, .int x4, .int x5])).length) Slot.unset).toArray = ls at hl ⊢
  have hl : lv_has ls 7 [(0, .ref x0), (1, .int x1), (2, .int x2), (3, .int x3), (4, .int x4), (5, .int x5)] := hl
  exact bX8_link_b0 C0 Y S _ _ _ h hO hS hl

def rm_X8_planets : Room := { frames := 24, cells := 0, slots := 0, locals := 552 }
def wX8_planets_b114 (x0 : Nat) (x1 : Int32) (x2 : Int32) (x3 : Int32) (x4 : Int32) (x5 : Int32) (Φ : Hp → Int32 → Prop) (S : Hp) (v6 : Int32) (z0 : Nat) (z1 : Int32) : Prop := isA S z0 8 ∧ wX8_isThrown S z0 z1 3 (fun S1 r2 => ((¬ r2 = 0 → Φ S1 0) ∧ (r2 = 0 → isA S1 x0 8 ∧ wX8_isThrown S1 x0 v6 4 (fun S5 r6 => ((r6 = 0 → isA S5 x0 8 ∧ wX8_made S5 x0 (fun S9 r10 => Φ S9 r10)) ∧ (¬ (r6 = 0) → Φ S5 0))))))
set_option maxHeartbeats 4000000 in
set_option maxRecDepth 100000 in
theorem bX8_planets_b114 {p : Program} {l : Launch} {e : Env} {s : State} {m : MethodId} {args : Array Value} {below : List Frame} {meth : Method} {c : Code} {G : Gw} {x0 : Nat} {x1 : Int32} {x2 : Int32} {x3 : Int32} {x4 : Int32} {x5 : Int32} {Φ : Hp → Int32 → Prop} (C0 : Mx p s m c cX8_planets 7 args yX8_planets.cls G) (Y : My meth (some .int))  : ∀ (S : Hp) (v6 : Int32) (z0 : Nat) (z1 : Int32) (H : Heap) (locs : List Loc) (ls : Array Slot), wX8_planets_b114 x0 x1 x2 x3 x4 x5 Φ S v6 z0 z1 → Ok G S H → va_S (Ab G.b) s.heap H locs → lv_has ls 7 [(0, .ref x0), (1, .int x1), (2, .int x2), (3, .int x3), (4, .int x4), (5, .int x5), (6, .int v6)] → W p l e rm_X8_planets s m args below meth c H locs 0 0 (MQ below (gQ G (PI Φ)) args s rm_X8_planets.cells rm_X8_planets.slots (Ab G.b)) (F0 m 114 ls [.int z1, .ref z0]) := by
  intro S v6 z0 z1 H locs ls h hO hS hl
  unfold wX8_planets_b114 at h
  refine lv_iconst (v := 3) C0.1 C0.2.1 dX8_planets_114 (by decide) ?_
  obtain ⟨i3, h⟩ := h
  refine c_V C0 hO hS (mX8_isThrown h) i3 (by decide) rfl rfl tb_1451 tb_1453 tb_37 tb_81 tb_1454 hd_X8_isThrown rfl ⟨⟨by decide, by decide⟩, by decide, by decide⟩ hl.1 rfl (Nat.le_of_ble_eq_true rfl) dX8_planets_115 (kI (fun r2 S1 H locs h hO hS => ?_))
  refine lv_if_ne (tgt := 131) C0.1 C0.2.1 dX8_planets_118 (by decide) (fun c4 => ?_) (fun c4 => ?_)
  · have h := h.1 c4
    refine lv_iconst (v := 0) C0.1 C0.2.1 dX8_planets_131 (by decide) ?_
    exact e_I C0 Y hO hS h (Nat.le_refl _) (Nat.le_refl _) dX8_planets_132
  · have h := h.2 c4
    refine lv_aload_n C0.1 C0.2.1 dX8_planets_121 rfl (lv_at hl 0 rfl) ?_
    refine lv_iload C0.1 C0.2.1 dX8_planets_122 (lv_at hl 6 rfl) ?_
    refine lv_iconst (v := 4) C0.1 C0.2.1 dX8_planets_124 (by decide) ?_
    obtain ⟨i7, h⟩ := h
    refine c_V C0 hO hS (mX8_isThrown h) i7 (by decide) rfl rfl tb_1451 tb_1453 tb_37 tb_81 tb_1454 hd_X8_isThrown rfl ⟨⟨by decide, by decide⟩, by decide, by decide⟩ hl.1 rfl (Nat.le_of_ble_eq_true rfl) dX8_planets_125 (kI (fun r6 S5 H locs h hO hS => ?_))
    refine lv_if_eq (tgt := 133) C0.1 C0.2.1 dX8_planets_128 (by decide) (fun c8 => ?_) (fun c8 => ?_)
    · have h := h.1 c8
      refine lv_aload_n C0.1 C0.2.1 dX8_planets_133 rfl (lv_at hl 0 rfl) ?_
      obtain ⟨i11, h⟩ := h
      refine c_V C0 hO hS (mX8_made h) i11 (by decide) rfl rfl tb_1490 tb_1492 tb_44 tb_81 tb_1493 hd_X8_made rfl ⟨⟨by decide, by decide⟩, by decide, by decide⟩ hl.1 rfl (Nat.le_of_ble_eq_true rfl) dX8_planets_134 (kI (fun r10 S9 H locs h hO hS => ?_))
      exact e_I C0 Y hO hS h (Nat.le_refl _) (Nat.le_refl _) dX8_planets_137
    · have h := h.2 c8
      refine lv_iconst (v := 0) C0.1 C0.2.1 dX8_planets_131 (by decide) ?_
      exact e_I C0 Y hO hS h (Nat.le_refl _) (Nat.le_refl _) dX8_planets_132
def wX8_planets_b90 (x0 : Nat) (x1 : Int32) (x2 : Int32) (x3 : Int32) (x4 : Int32) (x5 : Int32) (Φ : Hp → Int32 → Prop) (S : Hp) (z0 : Int32) : Prop := isA S x0 8 ∧ wX8_isAdded S x0 112 x1 x2 x3 x4 x5 (fun S1 r2 => ((¬ r2 = 0 → wX8_planets_b114 x0 x1 x2 x3 x4 x5 Φ S1 z0 x0 0) ∧ (r2 = 0 → wX8_planets_b114 x0 x1 x2 x3 x4 x5 Φ S1 z0 x0 1)))
set_option maxHeartbeats 4000000 in
set_option maxRecDepth 100000 in
theorem bX8_planets_b90 {p : Program} {l : Launch} {e : Env} {s : State} {m : MethodId} {args : Array Value} {below : List Frame} {meth : Method} {c : Code} {G : Gw} {x0 : Nat} {x1 : Int32} {x2 : Int32} {x3 : Int32} {x4 : Int32} {x5 : Int32} {Φ : Hp → Int32 → Prop} (C0 : Mx p s m c cX8_planets 7 args yX8_planets.cls G) (Y : My meth (some .int))  : ∀ (S : Hp) (z0 : Int32) (H : Heap) (locs : List Loc) (ls : Array Slot), wX8_planets_b90 x0 x1 x2 x3 x4 x5 Φ S z0 → Ok G S H → va_S (Ab G.b) s.heap H locs → lv_has ls 7 [(0, .ref x0), (1, .int x1), (2, .int x2), (3, .int x3), (4, .int x4), (5, .int x5)] → W p l e rm_X8_planets s m args below meth c H locs 0 0 (MQ below (gQ G (PI Φ)) args s rm_X8_planets.cells rm_X8_planets.slots (Ab G.b)) (F0 m 90 ls [.int z0]) := by
  intro S z0 H locs ls h hO hS hl
  unfold wX8_planets_b90 at h
  refine lv_istore C0.1 C0.2.1 dX8_planets_90 hl (by decide) rfl (fun ls hl => ?_)
  refine lv_aload_n C0.1 C0.2.1 dX8_planets_92 rfl (lv_at hl 1 rfl) ?_
  refine lv_aload_n C0.1 C0.2.1 dX8_planets_93 rfl (lv_at hl 1 rfl) ?_
  refine lv_bipush (v := 112) C0.1 C0.2.1 dX8_planets_94 (by decide) ?_
  refine lv_iload_n C0.1 C0.2.1 dX8_planets_96 rfl (lv_at hl 2 rfl) ?_
  refine lv_iload_n C0.1 C0.2.1 dX8_planets_97 rfl (lv_at hl 3 rfl) ?_
  refine lv_iload_n C0.1 C0.2.1 dX8_planets_98 rfl (lv_at hl 4 rfl) ?_
  refine lv_iload C0.1 C0.2.1 dX8_planets_99 (lv_at hl 5 rfl) ?_
  refine lv_iload C0.1 C0.2.1 dX8_planets_101 (lv_at hl 6 rfl) ?_
  obtain ⟨i3, h⟩ := h
  refine c_V C0 hO hS (mX8_isAdded h) i3 (by decide) rfl rfl tb_1469 tb_1471 tb_39 tb_81 tb_1472 hd_X8_isAdded rfl ⟨⟨by decide, by decide⟩, by decide, by decide⟩ hl.1 rfl (Nat.le_of_ble_eq_true rfl) dX8_planets_103 (kI (fun r2 S1 H locs h hO hS => ?_))
  refine lv_if_ne (tgt := 113) C0.1 C0.2.1 dX8_planets_106 (by decide) (fun c4 => ?_) (fun c4 => ?_)
  · have h := h.1 c4
    refine lv_iconst (v := 0) C0.1 C0.2.1 dX8_planets_113 (by decide) ?_
    exact bX8_planets_b114 C0 Y _ _ _ _ _ _ _ h hO hS (lv_sub hl [1, 2, 3, 4, 5, 6, 0] rfl)
  · have h := h.2 c4
    refine lv_iconst (v := 1) C0.1 C0.2.1 dX8_planets_109 (by decide) ?_
    refine lv_goto (tgt := 114) C0.1 C0.2.1 dX8_planets_110 (by decide) ?_
    exact bX8_planets_b114 C0 Y _ _ _ _ _ _ _ h hO hS (lv_sub hl [1, 2, 3, 4, 5, 6, 0] rfl)
def wX8_planets_b67 (x0 : Nat) (x1 : Int32) (x2 : Int32) (x3 : Int32) (x4 : Int32) (x5 : Int32) (Φ : Hp → Int32 → Prop) (S : Hp) (z0 : Nat) (z1 : Int32) : Prop := isA S z0 8 ∧ wX8_isThrown S z0 z1 2 (fun S1 r2 => ((r2 = 0 → isA S1 x0 8 ∧ ((¬ (S1.FI 544 x0) = 16 → wX8_planets_b90 x0 x1 x2 x3 x4 x5 Φ S1 0) ∧ ((S1.FI 544 x0) = 16 → wX8_planets_b90 x0 x1 x2 x3 x4 x5 Φ S1 1))) ∧ (¬ (r2 = 0) → Φ S1 0)))
set_option maxHeartbeats 4000000 in
set_option maxRecDepth 100000 in
theorem bX8_planets_b67 {p : Program} {l : Launch} {e : Env} {s : State} {m : MethodId} {args : Array Value} {below : List Frame} {meth : Method} {c : Code} {G : Gw} {x0 : Nat} {x1 : Int32} {x2 : Int32} {x3 : Int32} {x4 : Int32} {x5 : Int32} {Φ : Hp → Int32 → Prop} (C0 : Mx p s m c cX8_planets 7 args yX8_planets.cls G) (Y : My meth (some .int))  : ∀ (S : Hp) (z0 : Nat) (z1 : Int32) (H : Heap) (locs : List Loc) (ls : Array Slot), wX8_planets_b67 x0 x1 x2 x3 x4 x5 Φ S z0 z1 → Ok G S H → va_S (Ab G.b) s.heap H locs → lv_has ls 7 [(0, .ref x0), (1, .int x1), (2, .int x2), (3, .int x3), (4, .int x4), (5, .int x5)] → W p l e rm_X8_planets s m args below meth c H locs 0 0 (MQ below (gQ G (PI Φ)) args s rm_X8_planets.cells rm_X8_planets.slots (Ab G.b)) (F0 m 67 ls [.int z1, .ref z0]) := by
  intro S z0 z1 H locs ls h hO hS hl
  unfold wX8_planets_b67 at h
  refine lv_iconst (v := 2) C0.1 C0.2.1 dX8_planets_67 (by decide) ?_
  obtain ⟨i3, h⟩ := h
  refine c_V C0 hO hS (mX8_isThrown h) i3 (by decide) rfl rfl tb_1451 tb_1453 tb_37 tb_81 tb_1454 hd_X8_isThrown rfl ⟨⟨by decide, by decide⟩, by decide, by decide⟩ hl.1 rfl (Nat.le_of_ble_eq_true rfl) dX8_planets_68 (kI (fun r2 S1 H locs h hO hS => ?_))
  refine lv_if_eq (tgt := 76) C0.1 C0.2.1 dX8_planets_71 (by decide) (fun c4 => ?_) (fun c4 => ?_)
  · have h := h.1 c4
    refine lv_aload_n C0.1 C0.2.1 dX8_planets_76 rfl (lv_at hl 0 rfl) ?_
    obtain ⟨i5, h⟩ := h
    refine g8_32 C0 hO i5 tb_1360 dX8_planets_77 ?_
    refine lv_bipush (v := 16) C0.1 C0.2.1 dX8_planets_80 (by decide) ?_
    refine lv_icmp_ne (tgt := 89) C0.1 C0.2.1 dX8_planets_82 (by decide) (fun c6 => ?_) (fun c6 => ?_)
    · have h := h.1 c6
      refine lv_iconst (v := 0) C0.1 C0.2.1 dX8_planets_89 (by decide) ?_
      exact bX8_planets_b90 C0 Y _ _ _ _ _ h hO hS (lv_sub hl [0, 1, 2, 3, 4, 5] rfl)
    · have h := h.2 c6
      refine lv_iconst (v := 1) C0.1 C0.2.1 dX8_planets_85 (by decide) ?_
      refine lv_goto (tgt := 90) C0.1 C0.2.1 dX8_planets_86 (by decide) ?_
      exact bX8_planets_b90 C0 Y _ _ _ _ _ h hO hS (lv_sub hl [0, 1, 2, 3, 4, 5] rfl)
  · have h := h.2 c4
    refine lv_iconst (v := 0) C0.1 C0.2.1 dX8_planets_74 (by decide) ?_
    exact e_I C0 Y hO hS h (Nat.le_refl _) (Nat.le_refl _) dX8_planets_75
def wX8_planets_b62 (x0 : Nat) (x1 : Int32) (x2 : Int32) (x3 : Int32) (x4 : Int32) (x5 : Int32) (Φ : Hp → Int32 → Prop) (S : Hp) (z0 : Nat) : Prop := wX8_planets_b67 x0 x1 x2 x3 x4 x5 Φ S z0 1
set_option maxHeartbeats 4000000 in
set_option maxRecDepth 100000 in
theorem bX8_planets_b62 {p : Program} {l : Launch} {e : Env} {s : State} {m : MethodId} {args : Array Value} {below : List Frame} {meth : Method} {c : Code} {G : Gw} {x0 : Nat} {x1 : Int32} {x2 : Int32} {x3 : Int32} {x4 : Int32} {x5 : Int32} {Φ : Hp → Int32 → Prop} (C0 : Mx p s m c cX8_planets 7 args yX8_planets.cls G) (Y : My meth (some .int))  : ∀ (S : Hp) (z0 : Nat) (H : Heap) (locs : List Loc) (ls : Array Slot), wX8_planets_b62 x0 x1 x2 x3 x4 x5 Φ S z0 → Ok G S H → va_S (Ab G.b) s.heap H locs → lv_has ls 7 [(0, .ref x0), (1, .int x1), (2, .int x2), (3, .int x3), (4, .int x4), (5, .int x5)] → W p l e rm_X8_planets s m args below meth c H locs 0 0 (MQ below (gQ G (PI Φ)) args s rm_X8_planets.cells rm_X8_planets.slots (Ab G.b)) (F0 m 62 ls [.ref z0]) := by
  intro S z0 H locs ls h hO hS hl
  unfold wX8_planets_b62 at h
  refine lv_iconst (v := 1) C0.1 C0.2.1 dX8_planets_62 (by decide) ?_
  refine lv_goto (tgt := 67) C0.1 C0.2.1 dX8_planets_63 (by decide) ?_
  exact bX8_planets_b67 C0 Y _ _ _ _ _ _ h hO hS (lv_sub hl [0, 1, 2, 3, 4, 5] rfl)
def wX8_planets_b30 (x0 : Nat) (x1 : Int32) (x2 : Int32) (x3 : Int32) (x4 : Int32) (x5 : Int32) (Φ : Hp → Int32 → Prop) (S : Hp) (z0 : Nat) (z1 : Int32) : Prop := isA S z0 8 ∧ wX8_isThrown S z0 z1 1 (fun S1 r2 => ((¬ r2 = 0 → Φ S1 0) ∧ (r2 = 0 → wX8_isIn S1 x4 6 30 (fun S5 r6 => ((r6 = 0 → wX8_planets_b62 x0 x1 x2 x3 x4 x5 Φ S5 x0) ∧ (¬ (r6 = 0) → wX8_isIn S5 x5 6 30 (fun S8 r9 => ((¬ r9 = 0 → wX8_planets_b67 x0 x1 x2 x3 x4 x5 Φ S8 x0 0) ∧ (r9 = 0 → wX8_planets_b62 x0 x1 x2 x3 x4 x5 Φ S8 x0)))))))))
set_option maxHeartbeats 4000000 in
set_option maxRecDepth 100000 in
theorem bX8_planets_b30 {p : Program} {l : Launch} {e : Env} {s : State} {m : MethodId} {args : Array Value} {below : List Frame} {meth : Method} {c : Code} {G : Gw} {x0 : Nat} {x1 : Int32} {x2 : Int32} {x3 : Int32} {x4 : Int32} {x5 : Int32} {Φ : Hp → Int32 → Prop} (C0 : Mx p s m c cX8_planets 7 args yX8_planets.cls G) (Y : My meth (some .int))  : ∀ (S : Hp) (z0 : Nat) (z1 : Int32) (H : Heap) (locs : List Loc) (ls : Array Slot), wX8_planets_b30 x0 x1 x2 x3 x4 x5 Φ S z0 z1 → Ok G S H → va_S (Ab G.b) s.heap H locs → lv_has ls 7 [(0, .ref x0), (1, .int x1), (2, .int x2), (3, .int x3), (4, .int x4), (5, .int x5)] → W p l e rm_X8_planets s m args below meth c H locs 0 0 (MQ below (gQ G (PI Φ)) args s rm_X8_planets.cells rm_X8_planets.slots (Ab G.b)) (F0 m 30 ls [.int z1, .ref z0]) := by
  intro S z0 z1 H locs ls h hO hS hl
  unfold wX8_planets_b30 at h
  refine lv_iconst (v := 1) C0.1 C0.2.1 dX8_planets_30 (by decide) ?_
  obtain ⟨i3, h⟩ := h
  refine c_V C0 hO hS (mX8_isThrown h) i3 (by decide) rfl rfl tb_1451 tb_1453 tb_37 tb_81 tb_1454 hd_X8_isThrown rfl ⟨⟨by decide, by decide⟩, by decide, by decide⟩ hl.1 rfl (Nat.le_of_ble_eq_true rfl) dX8_planets_31 (kI (fun r2 S1 H locs h hO hS => ?_))
  refine lv_if_ne (tgt := 74) C0.1 C0.2.1 dX8_planets_34 (by decide) (fun c4 => ?_) (fun c4 => ?_)
  · have h := h.1 c4
    refine lv_iconst (v := 0) C0.1 C0.2.1 dX8_planets_74 (by decide) ?_
    exact e_I C0 Y hO hS h (Nat.le_refl _) (Nat.le_refl _) dX8_planets_75
  · have h := h.2 c4
    refine lv_aload_n C0.1 C0.2.1 dX8_planets_37 rfl (lv_at hl 0 rfl) ?_
    refine lv_iload C0.1 C0.2.1 dX8_planets_38 (lv_at hl 4 rfl) ?_
    refine lv_bipush (v := 6) C0.1 C0.2.1 dX8_planets_40 (by decide) ?_
    refine lv_bipush (v := 30) C0.1 C0.2.1 dX8_planets_42 (by decide) ?_
    refine c_S C0 hO hS (mX8_isIn h) tb_1463 tb_1464 tb_81 tb_1465 hd_X8_isIn rfl ⟨⟨by decide, by decide⟩, by decide, by decide⟩ hl.1 rfl (Nat.le_of_ble_eq_true rfl) dX8_planets_44 (kI (fun r6 S5 H locs h hO hS => ?_))
    refine lv_if_eq (tgt := 62) C0.1 C0.2.1 dX8_planets_47 (by decide) (fun c7 => ?_) (fun c7 => ?_)
    · have h := h.1 c7
      exact bX8_planets_b62 C0 Y _ _ _ _ _ h hO hS (lv_sub hl [0, 1, 2, 3, 4, 5] rfl)
    · have h := h.2 c7
      refine lv_iload C0.1 C0.2.1 dX8_planets_50 (lv_at hl 5 rfl) ?_
      refine lv_bipush (v := 6) C0.1 C0.2.1 dX8_planets_52 (by decide) ?_
      refine lv_bipush (v := 30) C0.1 C0.2.1 dX8_planets_54 (by decide) ?_
      refine c_S C0 hO hS (mX8_isIn h) tb_1463 tb_1464 tb_81 tb_1465 hd_X8_isIn rfl ⟨⟨by decide, by decide⟩, by decide, by decide⟩ hl.1 rfl (Nat.le_of_ble_eq_true rfl) dX8_planets_56 (kI (fun r9 S8 H locs h hO hS => ?_))
      refine lv_if_ne (tgt := 66) C0.1 C0.2.1 dX8_planets_59 (by decide) (fun c10 => ?_) (fun c10 => ?_)
      · have h := h.1 c10
        refine lv_iconst (v := 0) C0.1 C0.2.1 dX8_planets_66 (by decide) ?_
        exact bX8_planets_b67 C0 Y _ _ _ _ _ _ h hO hS (lv_sub hl [0, 1, 2, 3, 4, 5] rfl)
      · have h := h.2 c10
        exact bX8_planets_b62 C0 Y _ _ _ _ _ h hO hS (lv_sub hl [0, 1, 2, 3, 4, 5] rfl)
def wX8_planets_b25 (x0 : Nat) (x1 : Int32) (x2 : Int32) (x3 : Int32) (x4 : Int32) (x5 : Int32) (Φ : Hp → Int32 → Prop) (S : Hp) (z0 : Nat) : Prop := wX8_planets_b30 x0 x1 x2 x3 x4 x5 Φ S z0 1
set_option maxHeartbeats 4000000 in
set_option maxRecDepth 100000 in
theorem bX8_planets_b25 {p : Program} {l : Launch} {e : Env} {s : State} {m : MethodId} {args : Array Value} {below : List Frame} {meth : Method} {c : Code} {G : Gw} {x0 : Nat} {x1 : Int32} {x2 : Int32} {x3 : Int32} {x4 : Int32} {x5 : Int32} {Φ : Hp → Int32 → Prop} (C0 : Mx p s m c cX8_planets 7 args yX8_planets.cls G) (Y : My meth (some .int))  : ∀ (S : Hp) (z0 : Nat) (H : Heap) (locs : List Loc) (ls : Array Slot), wX8_planets_b25 x0 x1 x2 x3 x4 x5 Φ S z0 → Ok G S H → va_S (Ab G.b) s.heap H locs → lv_has ls 7 [(0, .ref x0), (1, .int x1), (2, .int x2), (3, .int x3), (4, .int x4), (5, .int x5)] → W p l e rm_X8_planets s m args below meth c H locs 0 0 (MQ below (gQ G (PI Φ)) args s rm_X8_planets.cells rm_X8_planets.slots (Ab G.b)) (F0 m 25 ls [.ref z0]) := by
  intro S z0 H locs ls h hO hS hl
  unfold wX8_planets_b25 at h
  refine lv_iconst (v := 1) C0.1 C0.2.1 dX8_planets_25 (by decide) ?_
  refine lv_goto (tgt := 30) C0.1 C0.2.1 dX8_planets_26 (by decide) ?_
  exact bX8_planets_b30 C0 Y _ _ _ _ _ _ h hO hS (lv_sub hl [0, 1, 2, 3, 4, 5] rfl)
def wX8_planets_b0 (x0 : Nat) (x1 : Int32) (x2 : Int32) (x3 : Int32) (x4 : Int32) (x5 : Int32) (Φ : Hp → Int32 → Prop) (S : Hp) : Prop := isA S x0 8 ∧ wX8_isNoShaft S x0 x1 (fun S1 r2 => ((¬ r2 = 0 → wX8_planets_b25 x0 x1 x2 x3 x4 x5 Φ S1 x0) ∧ (r2 = 0 → isA S1 x0 8 ∧ wX8_isNoShaft S1 x0 x2 (fun S5 r6 => ((¬ r6 = 0 → wX8_planets_b25 x0 x1 x2 x3 x4 x5 Φ S5 x0) ∧ (r6 = 0 → isA S5 x0 8 ∧ wX8_isNoShaft S5 x0 x3 (fun S9 r10 => ((r10 = 0 → wX8_planets_b30 x0 x1 x2 x3 x4 x5 Φ S9 x0 0) ∧ (¬ (r10 = 0) → wX8_planets_b25 x0 x1 x2 x3 x4 x5 Φ S9 x0)))))))))
set_option maxHeartbeats 4000000 in
set_option maxRecDepth 100000 in
theorem bX8_planets_b0 {p : Program} {l : Launch} {e : Env} {s : State} {m : MethodId} {args : Array Value} {below : List Frame} {meth : Method} {c : Code} {G : Gw} {x0 : Nat} {x1 : Int32} {x2 : Int32} {x3 : Int32} {x4 : Int32} {x5 : Int32} {Φ : Hp → Int32 → Prop} (C0 : Mx p s m c cX8_planets 7 args yX8_planets.cls G) (Y : My meth (some .int))  : ∀ (S : Hp) (H : Heap) (locs : List Loc) (ls : Array Slot), wX8_planets_b0 x0 x1 x2 x3 x4 x5 Φ S → Ok G S H → va_S (Ab G.b) s.heap H locs → lv_has ls 7 [(0, .ref x0), (1, .int x1), (2, .int x2), (3, .int x3), (4, .int x4), (5, .int x5)] → W p l e rm_X8_planets s m args below meth c H locs 0 0 (MQ below (gQ G (PI Φ)) args s rm_X8_planets.cells rm_X8_planets.slots (Ab G.b)) (F0 m 0 ls []) := by
  intro S H locs ls h hO hS hl
  unfold wX8_planets_b0 at h
  refine lv_aload_n C0.1 C0.2.1 dX8_planets_0 rfl (lv_at hl 0 rfl) ?_
  refine lv_aload_n C0.1 C0.2.1 dX8_planets_1 rfl (lv_at hl 0 rfl) ?_
  refine lv_iload_n C0.1 C0.2.1 dX8_planets_2 rfl (lv_at hl 1 rfl) ?_
  obtain ⟨i3, h⟩ := h
  refine c_V C0 hO hS (mX8_isNoShaft h) i3 (by decide) rfl rfl tb_1459 tb_1461 tb_38 tb_81 tb_1462 hd_X8_isNoShaft rfl ⟨⟨by decide, by decide⟩, by decide, by decide⟩ hl.1 rfl (Nat.le_of_ble_eq_true rfl) dX8_planets_3 (kI (fun r2 S1 H locs h hO hS => ?_))
  refine lv_if_ne (tgt := 25) C0.1 C0.2.1 dX8_planets_6 (by decide) (fun c4 => ?_) (fun c4 => ?_)
  · have h := h.1 c4
    exact bX8_planets_b25 C0 Y _ _ _ _ _ h hO hS (lv_sub hl [0, 1, 2, 3, 4, 5] rfl)
  · have h := h.2 c4
    refine lv_aload_n C0.1 C0.2.1 dX8_planets_9 rfl (lv_at hl 0 rfl) ?_
    refine lv_iload_n C0.1 C0.2.1 dX8_planets_10 rfl (lv_at hl 2 rfl) ?_
    obtain ⟨i7, h⟩ := h
    refine c_V C0 hO hS (mX8_isNoShaft h) i7 (by decide) rfl rfl tb_1459 tb_1461 tb_38 tb_81 tb_1462 hd_X8_isNoShaft rfl ⟨⟨by decide, by decide⟩, by decide, by decide⟩ hl.1 rfl (Nat.le_of_ble_eq_true rfl) dX8_planets_11 (kI (fun r6 S5 H locs h hO hS => ?_))
    refine lv_if_ne (tgt := 25) C0.1 C0.2.1 dX8_planets_14 (by decide) (fun c8 => ?_) (fun c8 => ?_)
    · have h := h.1 c8
      exact bX8_planets_b25 C0 Y _ _ _ _ _ h hO hS (lv_sub hl [0, 1, 2, 3, 4, 5] rfl)
    · have h := h.2 c8
      refine lv_aload_n C0.1 C0.2.1 dX8_planets_17 rfl (lv_at hl 0 rfl) ?_
      refine lv_iload_n C0.1 C0.2.1 dX8_planets_18 rfl (lv_at hl 3 rfl) ?_
      obtain ⟨i11, h⟩ := h
      refine c_V C0 hO hS (mX8_isNoShaft h) i11 (by decide) rfl rfl tb_1459 tb_1461 tb_38 tb_81 tb_1462 hd_X8_isNoShaft rfl ⟨⟨by decide, by decide⟩, by decide, by decide⟩ hl.1 rfl (Nat.le_of_ble_eq_true rfl) dX8_planets_19 (kI (fun r10 S9 H locs h hO hS => ?_))
      refine lv_if_eq (tgt := 29) C0.1 C0.2.1 dX8_planets_22 (by decide) (fun c12 => ?_) (fun c12 => ?_)
      · have h := h.1 c12
        refine lv_iconst (v := 0) C0.1 C0.2.1 dX8_planets_29 (by decide) ?_
        exact bX8_planets_b30 C0 Y _ _ _ _ _ _ h hO hS (lv_sub hl [0, 1, 2, 3, 4, 5] rfl)
      · have h := h.2 c12
        exact bX8_planets_b25 C0 Y _ _ _ _ _ h hO hS (lv_sub hl [0, 1, 2, 3, 4, 5] rfl)
def wX8_planets (S : Hp) (x0 : Nat) (x1 : Int32) (x2 : Int32) (x3 : Int32) (x4 : Int32) (x5 : Int32) (Φ : Hp → Int32 → Prop) : Prop := wX8_planets_b0 x0 x1 x2 x3 x4 x5 Φ S
set_option maxRecDepth 100000 in
theorem mX8_planets {l : Launch} {G : Gw} {S : Hp} {x0 : Nat} {x1 : Int32} {x2 : Int32} {x3 : Int32} {x4 : Int32} {x5 : Int32} {Φ : Hp → Int32 → Prop} (h : wX8_planets S x0 x1 x2 x3 x4 x5 Φ) : gM l yX8_planets cX8_planets 7 (some .int) rm_X8_planets [.ref x0, .int x1, .int x2, .int x3, .int x4, .int x5] G S (PI Φ) := by
  unfold gM
  refine Met.ofW (cc := cX8_planets) (maxL := 7) (ret := (some .int)) (by decide) rfl ?_
  intro p e s m args below meth c s₁ B hml hv
  obtain ⟨rfl, hw⟩ := hv
  obtain ⟨C0, Y, hO⟩ := mx_of B hml hw
  have hS : va_S (Ab G.b) s.heap s.heap [] := va_S.rf
  have hl := lv_entry ([.ref x0, .int x1, .int x2, .int x3, .int x4, .int x5]) (n := 7) (Nat.le_of_ble_eq_true rfl)
  rw [lg_entry_eq]
  generalize (lg_sl ([.ref x0, .int x1, .int x2, .int x3, .int x4, .int x5]) ++ List.replicate (7 - (lg_sl ([.ref x0, .int x1, .int x2, .int x3, .int x4, .int x5])).length) Slot.unset).toArray = ls at hl ⊢
  have hl : lv_has ls 7 [(0, .ref x0), (1, .int x1), (2, .int x2), (3, .int x3), (4, .int x4), (5, .int x5)] := hl
  exact bX8_planets_b0 C0 Y S _ _ _ h hO hS hl

def rm_X8_engage : Room := { frames := 2, cells := 0, slots := 0, locals := 43 }
def wX8_engage_b68 (x0 : Nat) (x1 : Int32) (x2 : Int32) (Φ : Hp → Int32 → Prop) (S : Hp) (v3 : Int32) (z0 : Nat) (z1 : Int32) (z2 : Int32) : Prop := isA S z0 23 ∧ vp_in z1 (S.N z0) ∧ nb z2 ∧ ∀ S4, S4 = S.setAI z0 z1.toNatClampNeg z2 → narrow .boolean (.int v3) = .int v3 ∧ Φ S4 v3
set_option maxHeartbeats 4000000 in
set_option maxRecDepth 100000 in
theorem bX8_engage_b68 {p : Program} {l : Launch} {e : Env} {s : State} {m : MethodId} {args : Array Value} {below : List Frame} {meth : Method} {c : Code} {G : Gw} {x0 : Nat} {x1 : Int32} {x2 : Int32} {Φ : Hp → Int32 → Prop} (C0 : Mx p s m c cX8_engage 4 args yX8_engage.cls G) (Y : My meth (some .boolean))  : ∀ (S : Hp) (v3 : Int32) (z0 : Nat) (z1 : Int32) (z2 : Int32) (H : Heap) (locs : List Loc) (ls : Array Slot), wX8_engage_b68 x0 x1 x2 Φ S v3 z0 z1 z2 → Ok G S H → va_S (Ab G.b) s.heap H locs → lv_has ls 4 [(0, .ref x0), (1, .int x1), (2, .int x2), (3, .int v3)] → W p l e rm_X8_engage s m args below meth c H locs 0 0 (MQ below (gQ G (PI Φ)) args s rm_X8_engage.cells rm_X8_engage.slots (Ab G.b)) (F0 m 68 ls [.int z2, .int z1, .ref z0]) := by
  intro S v3 z0 z1 z2 H locs ls h hO hS hl
  unfold wX8_engage_b68 at h
  obtain ⟨i1, h⟩ := h
  obtain ⟨e2, h⟩ := h
  obtain ⟨e3, h⟩ := h
  refine r_zast C0 hO hS i1 e2 e3 dX8_engage_68 (fun H locs hO hS => ?_)
  have h := h _ rfl
  refine lv_iload_n C0.1 C0.2.1 dX8_engage_69 rfl (lv_at hl 3 rfl) ?_
  exact e_Z C0 Y hO hS h.1 h.2 (Nat.le_refl _) (Nat.le_refl _) dX8_engage_70
def wX8_engage_b53 (x0 : Nat) (x1 : Int32) (x2 : Int32) (Φ : Hp → Int32 → Prop) (S : Hp) (z0 : Int32) : Prop := isA S x0 8 ∧ ∃ a2, S.FR 527 x0 = some a2 ∧ ((¬ x2 = 0 → wX8_engage_b68 x0 x1 x2 Φ S z0 a2 x1 0) ∧ (x2 = 0 → wX8_engage_b68 x0 x1 x2 Φ S z0 a2 x1 1))
set_option maxHeartbeats 4000000 in
set_option maxRecDepth 100000 in
theorem bX8_engage_b53 {p : Program} {l : Launch} {e : Env} {s : State} {m : MethodId} {args : Array Value} {below : List Frame} {meth : Method} {c : Code} {G : Gw} {x0 : Nat} {x1 : Int32} {x2 : Int32} {Φ : Hp → Int32 → Prop} (C0 : Mx p s m c cX8_engage 4 args yX8_engage.cls G) (Y : My meth (some .boolean))  : ∀ (S : Hp) (z0 : Int32) (H : Heap) (locs : List Loc) (ls : Array Slot), wX8_engage_b53 x0 x1 x2 Φ S z0 → Ok G S H → va_S (Ab G.b) s.heap H locs → lv_has ls 4 [(0, .ref x0), (1, .int x1), (2, .int x2)] → W p l e rm_X8_engage s m args below meth c H locs 0 0 (MQ below (gQ G (PI Φ)) args s rm_X8_engage.cells rm_X8_engage.slots (Ab G.b)) (F0 m 53 ls [.int z0]) := by
  intro S z0 H locs ls h hO hS hl
  unfold wX8_engage_b53 at h
  refine lv_istore_n C0.1 C0.2.1 dX8_engage_53 rfl hl (by decide) rfl (fun ls hl => ?_)
  refine lv_aload_n C0.1 C0.2.1 dX8_engage_54 rfl (lv_at hl 1 rfl) ?_
  obtain ⟨i1, h⟩ := h
  obtain ⟨a2, ea2, h⟩ := h
  refine g8_15 C0 hO i1 ea2 tb_1343 dX8_engage_55 ?_
  refine lv_iload_n C0.1 C0.2.1 dX8_engage_58 rfl (lv_at hl 2 rfl) ?_
  refine lv_iload_n C0.1 C0.2.1 dX8_engage_59 rfl (lv_at hl 3 rfl) ?_
  refine lv_if_ne (tgt := 67) C0.1 C0.2.1 dX8_engage_60 (by decide) (fun c3 => ?_) (fun c3 => ?_)
  · have h := h.1 c3
    refine lv_iconst (v := 0) C0.1 C0.2.1 dX8_engage_67 (by decide) ?_
    exact bX8_engage_b68 C0 Y _ _ _ _ _ _ _ _ h hO hS (lv_sub hl [1, 2, 3, 0] rfl)
  · have h := h.2 c3
    refine lv_iconst (v := 1) C0.1 C0.2.1 dX8_engage_63 (by decide) ?_
    refine lv_goto (tgt := 68) C0.1 C0.2.1 dX8_engage_64 (by decide) ?_
    exact bX8_engage_b68 C0 Y _ _ _ _ _ _ _ _ h hO hS (lv_sub hl [1, 2, 3, 0] rfl)
def wX8_engage_b30 (x0 : Nat) (x1 : Int32) (x2 : Int32) (Φ : Hp → Int32 → Prop) (S : Hp) (z0 : Nat) (z1 : Int32) : Prop := isA S z0 8 ∧ wX8_isThrown S z0 z1 2 (fun S1 r2 => ((r2 = 0 → isA S1 x0 8 ∧ ∃ a6, S1.FR 527 x0 = some a6 ∧ isA S1 a6 23 ∧ vp_in x1 (S1.N a6) ∧ ((¬ (S1.AI a6 x1.toNatClampNeg) = 0 → wX8_engage_b53 x0 x1 x2 Φ S1 0) ∧ ((S1.AI a6 x1.toNatClampNeg) = 0 → wX8_engage_b53 x0 x1 x2 Φ S1 1))) ∧ (¬ (r2 = 0) → Φ S1 0)))
set_option maxHeartbeats 4000000 in
set_option maxRecDepth 100000 in
theorem bX8_engage_b30 {p : Program} {l : Launch} {e : Env} {s : State} {m : MethodId} {args : Array Value} {below : List Frame} {meth : Method} {c : Code} {G : Gw} {x0 : Nat} {x1 : Int32} {x2 : Int32} {Φ : Hp → Int32 → Prop} (C0 : Mx p s m c cX8_engage 4 args yX8_engage.cls G) (Y : My meth (some .boolean))  : ∀ (S : Hp) (z0 : Nat) (z1 : Int32) (H : Heap) (locs : List Loc) (ls : Array Slot), wX8_engage_b30 x0 x1 x2 Φ S z0 z1 → Ok G S H → va_S (Ab G.b) s.heap H locs → lv_has ls 4 [(0, .ref x0), (1, .int x1), (2, .int x2)] → W p l e rm_X8_engage s m args below meth c H locs 0 0 (MQ below (gQ G (PI Φ)) args s rm_X8_engage.cells rm_X8_engage.slots (Ab G.b)) (F0 m 30 ls [.int z1, .ref z0]) := by
  intro S z0 z1 H locs ls h hO hS hl
  unfold wX8_engage_b30 at h
  refine lv_iconst (v := 2) C0.1 C0.2.1 dX8_engage_30 (by decide) ?_
  obtain ⟨i3, h⟩ := h
  refine c_V C0 hO hS (mX8_isThrown h) i3 (by decide) rfl rfl tb_1451 tb_1453 tb_37 tb_81 tb_1454 hd_X8_isThrown rfl ⟨⟨by decide, by decide⟩, by decide, by decide⟩ hl.1 rfl (Nat.le_of_ble_eq_true rfl) dX8_engage_31 (kI (fun r2 S1 H locs h hO hS => ?_))
  refine lv_if_eq (tgt := 39) C0.1 C0.2.1 dX8_engage_34 (by decide) (fun c4 => ?_) (fun c4 => ?_)
  · have h := h.1 c4
    refine lv_aload_n C0.1 C0.2.1 dX8_engage_39 rfl (lv_at hl 0 rfl) ?_
    obtain ⟨i5, h⟩ := h
    obtain ⟨a6, ea6, h⟩ := h
    refine g8_15 C0 hO i5 ea6 tb_1343 dX8_engage_40 ?_
    refine lv_iload_n C0.1 C0.2.1 dX8_engage_43 rfl (lv_at hl 1 rfl) ?_
    obtain ⟨i7, h⟩ := h
    obtain ⟨e8, h⟩ := h
    refine r_zald C0 hO i7 e8 dX8_engage_44 ?_
    refine lv_if_ne (tgt := 52) C0.1 C0.2.1 dX8_engage_45 (by decide) (fun c9 => ?_) (fun c9 => ?_)
    · have h := h.1 c9
      refine lv_iconst (v := 0) C0.1 C0.2.1 dX8_engage_52 (by decide) ?_
      exact bX8_engage_b53 C0 Y _ _ _ _ _ h hO hS (lv_sub hl [0, 1, 2] rfl)
    · have h := h.2 c9
      refine lv_iconst (v := 1) C0.1 C0.2.1 dX8_engage_48 (by decide) ?_
      refine lv_goto (tgt := 53) C0.1 C0.2.1 dX8_engage_49 (by decide) ?_
      exact bX8_engage_b53 C0 Y _ _ _ _ _ h hO hS (lv_sub hl [0, 1, 2] rfl)
  · have h := h.2 c4
    refine lv_iconst (v := 0) C0.1 C0.2.1 dX8_engage_37 (by decide) ?_
    exact e_Z C0 Y hO hS rfl h (Nat.le_refl _) (Nat.le_refl _) dX8_engage_38
def wX8_engage_b0 (x0 : Nat) (x1 : Int32) (x2 : Int32) (Φ : Hp → Int32 → Prop) (S : Hp) : Prop := isA S x0 8 ∧ wX8_isNoLink S x0 x1 (fun S1 r2 => isA S1 x0 8 ∧ wX8_isThrown S1 x0 r2 1 (fun S4 r5 => ((¬ r5 = 0 → Φ S4 0) ∧ (r5 = 0 → isA S4 x0 8 ∧ ∃ a9, S4.FR 521 x0 = some a9 ∧ isA S4 a9 20 ∧ vp_in x1 (S4.N a9) ∧ (((S4.AI a9 x1.toNatClampNeg) = 107 → wX8_engage_b30 x0 x1 x2 Φ S4 x0 0) ∧ (¬ ((S4.AI a9 x1.toNatClampNeg) = 107) → wX8_engage_b30 x0 x1 x2 Φ S4 x0 1))))))
set_option maxHeartbeats 4000000 in
set_option maxRecDepth 100000 in
theorem bX8_engage_b0 {p : Program} {l : Launch} {e : Env} {s : State} {m : MethodId} {args : Array Value} {below : List Frame} {meth : Method} {c : Code} {G : Gw} {x0 : Nat} {x1 : Int32} {x2 : Int32} {Φ : Hp → Int32 → Prop} (C0 : Mx p s m c cX8_engage 4 args yX8_engage.cls G) (Y : My meth (some .boolean))  : ∀ (S : Hp) (H : Heap) (locs : List Loc) (ls : Array Slot), wX8_engage_b0 x0 x1 x2 Φ S → Ok G S H → va_S (Ab G.b) s.heap H locs → lv_has ls 4 [(0, .ref x0), (1, .int x1), (2, .int x2)] → W p l e rm_X8_engage s m args below meth c H locs 0 0 (MQ below (gQ G (PI Φ)) args s rm_X8_engage.cells rm_X8_engage.slots (Ab G.b)) (F0 m 0 ls []) := by
  intro S H locs ls h hO hS hl
  unfold wX8_engage_b0 at h
  refine lv_aload_n C0.1 C0.2.1 dX8_engage_0 rfl (lv_at hl 0 rfl) ?_
  refine lv_aload_n C0.1 C0.2.1 dX8_engage_1 rfl (lv_at hl 0 rfl) ?_
  refine lv_iload_n C0.1 C0.2.1 dX8_engage_2 rfl (lv_at hl 1 rfl) ?_
  obtain ⟨i3, h⟩ := h
  refine c_V C0 hO hS (mX8_isNoLink h) i3 (by decide) rfl rfl tb_1506 tb_1508 tb_45 tb_81 tb_1509 hd_X8_isNoLink rfl ⟨⟨by decide, by decide⟩, by decide, by decide⟩ hl.1 rfl (Nat.le_of_ble_eq_true rfl) dX8_engage_3 (kI (fun r2 S1 H locs h hO hS => ?_))
  refine lv_iconst (v := 1) C0.1 C0.2.1 dX8_engage_6 (by decide) ?_
  obtain ⟨i6, h⟩ := h
  refine c_V C0 hO hS (mX8_isThrown h) i6 (by decide) rfl rfl tb_1451 tb_1453 tb_37 tb_81 tb_1454 hd_X8_isThrown rfl ⟨⟨by decide, by decide⟩, by decide, by decide⟩ hl.1 rfl (Nat.le_of_ble_eq_true rfl) dX8_engage_7 (kI (fun r5 S4 H locs h hO hS => ?_))
  refine lv_if_ne (tgt := 37) C0.1 C0.2.1 dX8_engage_10 (by decide) (fun c7 => ?_) (fun c7 => ?_)
  · have h := h.1 c7
    refine lv_iconst (v := 0) C0.1 C0.2.1 dX8_engage_37 (by decide) ?_
    exact e_Z C0 Y hO hS rfl h (Nat.le_refl _) (Nat.le_refl _) dX8_engage_38
  · have h := h.2 c7
    refine lv_aload_n C0.1 C0.2.1 dX8_engage_13 rfl (lv_at hl 0 rfl) ?_
    refine lv_aload_n C0.1 C0.2.1 dX8_engage_14 rfl (lv_at hl 0 rfl) ?_
    obtain ⟨i8, h⟩ := h
    obtain ⟨a9, ea9, h⟩ := h
    refine g8_9 C0 hO i8 ea9 tb_1337 dX8_engage_15 ?_
    refine lv_iload_n C0.1 C0.2.1 dX8_engage_18 rfl (lv_at hl 1 rfl) ?_
    obtain ⟨i10, h⟩ := h
    obtain ⟨e11, h⟩ := h
    refine r_cald C0 hO i10 e11 dX8_engage_19 ?_
    refine lv_bipush (v := 107) C0.1 C0.2.1 dX8_engage_20 (by decide) ?_
    refine lv_icmp_eq (tgt := 29) C0.1 C0.2.1 dX8_engage_22 (by decide) (fun c12 => ?_) (fun c12 => ?_)
    · have h := h.1 c12
      refine lv_iconst (v := 0) C0.1 C0.2.1 dX8_engage_29 (by decide) ?_
      exact bX8_engage_b30 C0 Y _ _ _ _ _ _ h hO hS (lv_sub hl [0, 1, 2] rfl)
    · have h := h.2 c12
      refine lv_iconst (v := 1) C0.1 C0.2.1 dX8_engage_25 (by decide) ?_
      refine lv_goto (tgt := 30) C0.1 C0.2.1 dX8_engage_26 (by decide) ?_
      exact bX8_engage_b30 C0 Y _ _ _ _ _ _ h hO hS (lv_sub hl [0, 1, 2] rfl)
def wX8_engage (S : Hp) (x0 : Nat) (x1 : Int32) (x2 : Int32) (Φ : Hp → Int32 → Prop) : Prop := wX8_engage_b0 x0 x1 x2 Φ S
set_option maxRecDepth 100000 in
theorem mX8_engage {l : Launch} {G : Gw} {S : Hp} {x0 : Nat} {x1 : Int32} {x2 : Int32} {Φ : Hp → Int32 → Prop} (h : wX8_engage S x0 x1 x2 Φ) : gM l yX8_engage cX8_engage 4 (some .boolean) rm_X8_engage [.ref x0, .int x1, .int x2] G S (PI Φ) := by
  unfold gM
  refine Met.ofW (cc := cX8_engage) (maxL := 4) (ret := (some .boolean)) (by decide) rfl ?_
  intro p e s m args below meth c s₁ B hml hv
  obtain ⟨rfl, hw⟩ := hv
  obtain ⟨C0, Y, hO⟩ := mx_of B hml hw
  have hS : va_S (Ab G.b) s.heap s.heap [] := va_S.rf
  have hl := lv_entry ([.ref x0, .int x1, .int x2]) (n := 4) (Nat.le_of_ble_eq_true rfl)
  rw [lg_entry_eq]
  generalize (lg_sl ([.ref x0, .int x1, .int x2]) ++ List.replicate (4 - (lg_sl ([.ref x0, .int x1, .int x2])).length) Slot.unset).toArray = ls at hl ⊢
  have hl : lv_has ls 4 [(0, .ref x0), (1, .int x1), (2, .int x2)] := hl
  exact bX8_engage_b0 C0 Y S _ _ _ h hO hS hl

def rm_X8_life : Room := { frames := 2, cells := 0, slots := 0, locals := 43 }
def wX8_life_b30 (x0 : Nat) (x1 : Int32) (x2 : Int32) (Φ : Hp → Int32 → Prop) (S : Hp) (z0 : Nat) (z1 : Int32) : Prop := isA S z0 8 ∧ wX8_isThrown S z0 z1 2 (fun S1 r2 => ((r2 = 0 → isA S1 x0 8 ∧ ∃ a6, S1.FR 529 x0 = some a6 ∧ isA S1 a6 21 ∧ vp_in x1 (S1.N a6) ∧ ∃ a9, S1.FR 529 x0 = some a9 ∧ isA S1 a9 21 ∧ vp_in x1 (S1.N a9) ∧ ∀ S12, S12 = S1.setAI a9 x1.toNatClampNeg x2 → Φ S12 (S1.AI a6 x1.toNatClampNeg)) ∧ (¬ (r2 = 0) → Φ S1 0)))
set_option maxHeartbeats 4000000 in
set_option maxRecDepth 100000 in
theorem bX8_life_b30 {p : Program} {l : Launch} {e : Env} {s : State} {m : MethodId} {args : Array Value} {below : List Frame} {meth : Method} {c : Code} {G : Gw} {x0 : Nat} {x1 : Int32} {x2 : Int32} {Φ : Hp → Int32 → Prop} (C0 : Mx p s m c cX8_life 4 args yX8_life.cls G) (Y : My meth (some .int))  : ∀ (S : Hp) (z0 : Nat) (z1 : Int32) (H : Heap) (locs : List Loc) (ls : Array Slot), wX8_life_b30 x0 x1 x2 Φ S z0 z1 → Ok G S H → va_S (Ab G.b) s.heap H locs → lv_has ls 4 [(0, .ref x0), (1, .int x1), (2, .int x2)] → W p l e rm_X8_life s m args below meth c H locs 0 0 (MQ below (gQ G (PI Φ)) args s rm_X8_life.cells rm_X8_life.slots (Ab G.b)) (F0 m 30 ls [.int z1, .ref z0]) := by
  intro S z0 z1 H locs ls h hO hS hl
  unfold wX8_life_b30 at h
  refine lv_iconst (v := 2) C0.1 C0.2.1 dX8_life_30 (by decide) ?_
  obtain ⟨i3, h⟩ := h
  refine c_V C0 hO hS (mX8_isThrown h) i3 (by decide) rfl rfl tb_1451 tb_1453 tb_37 tb_81 tb_1454 hd_X8_isThrown rfl ⟨⟨by decide, by decide⟩, by decide, by decide⟩ hl.1 rfl (Nat.le_of_ble_eq_true rfl) dX8_life_31 (kI (fun r2 S1 H locs h hO hS => ?_))
  refine lv_if_eq (tgt := 39) C0.1 C0.2.1 dX8_life_34 (by decide) (fun c4 => ?_) (fun c4 => ?_)
  · have h := h.1 c4
    refine lv_aload_n C0.1 C0.2.1 dX8_life_39 rfl (lv_at hl 0 rfl) ?_
    obtain ⟨i5, h⟩ := h
    obtain ⟨a6, ea6, h⟩ := h
    refine g8_17 C0 hO i5 ea6 tb_1345 dX8_life_40 ?_
    refine lv_iload_n C0.1 C0.2.1 dX8_life_43 rfl (lv_at hl 1 rfl) ?_
    obtain ⟨i7, h⟩ := h
    obtain ⟨e8, h⟩ := h
    refine r_iald C0 hO i7 e8 dX8_life_44 ?_
    refine lv_istore_n C0.1 C0.2.1 dX8_life_45 rfl hl (by decide) rfl (fun ls hl => ?_)
    refine lv_aload_n C0.1 C0.2.1 dX8_life_46 rfl (lv_at hl 1 rfl) ?_
    obtain ⟨a9, ea9, h⟩ := h
    refine g8_17 C0 hO i5 ea9 tb_1345 dX8_life_47 ?_
    refine lv_iload_n C0.1 C0.2.1 dX8_life_50 rfl (lv_at hl 2 rfl) ?_
    refine lv_iload_n C0.1 C0.2.1 dX8_life_51 rfl (lv_at hl 3 rfl) ?_
    obtain ⟨i10, h⟩ := h
    obtain ⟨e11, h⟩ := h
    refine r_iast C0 hO hS i10 e11 dX8_life_52 (fun H locs hO hS => ?_)
    have h := h _ rfl
    refine lv_iload_n C0.1 C0.2.1 dX8_life_53 rfl (lv_at hl 0 rfl) ?_
    exact e_I C0 Y hO hS h (Nat.le_refl _) (Nat.le_refl _) dX8_life_54
  · have h := h.2 c4
    refine lv_iconst (v := 0) C0.1 C0.2.1 dX8_life_37 (by decide) ?_
    exact e_I C0 Y hO hS h (Nat.le_refl _) (Nat.le_refl _) dX8_life_38
def wX8_life_b0 (x0 : Nat) (x1 : Int32) (x2 : Int32) (Φ : Hp → Int32 → Prop) (S : Hp) : Prop := isA S x0 8 ∧ wX8_isNoLink S x0 x1 (fun S1 r2 => isA S1 x0 8 ∧ wX8_isThrown S1 x0 r2 1 (fun S4 r5 => ((¬ r5 = 0 → Φ S4 0) ∧ (r5 = 0 → wX8_isIn S4 x2 0 999 (fun S8 r9 => ((¬ r9 = 0 → wX8_life_b30 x0 x1 x2 Φ S8 x0 0) ∧ (r9 = 0 → wX8_life_b30 x0 x1 x2 Φ S8 x0 1)))))))
set_option maxHeartbeats 4000000 in
set_option maxRecDepth 100000 in
theorem bX8_life_b0 {p : Program} {l : Launch} {e : Env} {s : State} {m : MethodId} {args : Array Value} {below : List Frame} {meth : Method} {c : Code} {G : Gw} {x0 : Nat} {x1 : Int32} {x2 : Int32} {Φ : Hp → Int32 → Prop} (C0 : Mx p s m c cX8_life 4 args yX8_life.cls G) (Y : My meth (some .int))  : ∀ (S : Hp) (H : Heap) (locs : List Loc) (ls : Array Slot), wX8_life_b0 x0 x1 x2 Φ S → Ok G S H → va_S (Ab G.b) s.heap H locs → lv_has ls 4 [(0, .ref x0), (1, .int x1), (2, .int x2)] → W p l e rm_X8_life s m args below meth c H locs 0 0 (MQ below (gQ G (PI Φ)) args s rm_X8_life.cells rm_X8_life.slots (Ab G.b)) (F0 m 0 ls []) := by
  intro S H locs ls h hO hS hl
  unfold wX8_life_b0 at h
  refine lv_aload_n C0.1 C0.2.1 dX8_life_0 rfl (lv_at hl 0 rfl) ?_
  refine lv_aload_n C0.1 C0.2.1 dX8_life_1 rfl (lv_at hl 0 rfl) ?_
  refine lv_iload_n C0.1 C0.2.1 dX8_life_2 rfl (lv_at hl 1 rfl) ?_
  obtain ⟨i3, h⟩ := h
  refine c_V C0 hO hS (mX8_isNoLink h) i3 (by decide) rfl rfl tb_1506 tb_1508 tb_45 tb_81 tb_1509 hd_X8_isNoLink rfl ⟨⟨by decide, by decide⟩, by decide, by decide⟩ hl.1 rfl (Nat.le_of_ble_eq_true rfl) dX8_life_3 (kI (fun r2 S1 H locs h hO hS => ?_))
  refine lv_iconst (v := 1) C0.1 C0.2.1 dX8_life_6 (by decide) ?_
  obtain ⟨i6, h⟩ := h
  refine c_V C0 hO hS (mX8_isThrown h) i6 (by decide) rfl rfl tb_1451 tb_1453 tb_37 tb_81 tb_1454 hd_X8_isThrown rfl ⟨⟨by decide, by decide⟩, by decide, by decide⟩ hl.1 rfl (Nat.le_of_ble_eq_true rfl) dX8_life_7 (kI (fun r5 S4 H locs h hO hS => ?_))
  refine lv_if_ne (tgt := 37) C0.1 C0.2.1 dX8_life_10 (by decide) (fun c7 => ?_) (fun c7 => ?_)
  · have h := h.1 c7
    refine lv_iconst (v := 0) C0.1 C0.2.1 dX8_life_37 (by decide) ?_
    exact e_I C0 Y hO hS h (Nat.le_refl _) (Nat.le_refl _) dX8_life_38
  · have h := h.2 c7
    refine lv_aload_n C0.1 C0.2.1 dX8_life_13 rfl (lv_at hl 0 rfl) ?_
    refine lv_iload_n C0.1 C0.2.1 dX8_life_14 rfl (lv_at hl 2 rfl) ?_
    refine lv_iconst (v := 0) C0.1 C0.2.1 dX8_life_15 (by decide) ?_
    refine lv_sipush (v := 999) C0.1 C0.2.1 dX8_life_16 (by decide) ?_
    refine c_S C0 hO hS (mX8_isIn h) tb_1463 tb_1464 tb_81 tb_1465 hd_X8_isIn rfl ⟨⟨by decide, by decide⟩, by decide, by decide⟩ hl.1 rfl (Nat.le_of_ble_eq_true rfl) dX8_life_19 (kI (fun r9 S8 H locs h hO hS => ?_))
    refine lv_if_ne (tgt := 29) C0.1 C0.2.1 dX8_life_22 (by decide) (fun c10 => ?_) (fun c10 => ?_)
    · have h := h.1 c10
      refine lv_iconst (v := 0) C0.1 C0.2.1 dX8_life_29 (by decide) ?_
      exact bX8_life_b30 C0 Y _ _ _ _ _ _ h hO hS (lv_sub hl [0, 1, 2] rfl)
    · have h := h.2 c10
      refine lv_iconst (v := 1) C0.1 C0.2.1 dX8_life_25 (by decide) ?_
      refine lv_goto (tgt := 30) C0.1 C0.2.1 dX8_life_26 (by decide) ?_
      exact bX8_life_b30 C0 Y _ _ _ _ _ _ h hO hS (lv_sub hl [0, 1, 2] rfl)
def wX8_life (S : Hp) (x0 : Nat) (x1 : Int32) (x2 : Int32) (Φ : Hp → Int32 → Prop) : Prop := wX8_life_b0 x0 x1 x2 Φ S
set_option maxRecDepth 100000 in
theorem mX8_life {l : Launch} {G : Gw} {S : Hp} {x0 : Nat} {x1 : Int32} {x2 : Int32} {Φ : Hp → Int32 → Prop} (h : wX8_life S x0 x1 x2 Φ) : gM l yX8_life cX8_life 4 (some .int) rm_X8_life [.ref x0, .int x1, .int x2] G S (PI Φ) := by
  unfold gM
  refine Met.ofW (cc := cX8_life) (maxL := 4) (ret := (some .int)) (by decide) rfl ?_
  intro p e s m args below meth c s₁ B hml hv
  obtain ⟨rfl, hw⟩ := hv
  obtain ⟨C0, Y, hO⟩ := mx_of B hml hw
  have hS : va_S (Ab G.b) s.heap s.heap [] := va_S.rf
  have hl := lv_entry ([.ref x0, .int x1, .int x2]) (n := 4) (Nat.le_of_ble_eq_true rfl)
  rw [lg_entry_eq]
  generalize (lg_sl ([.ref x0, .int x1, .int x2]) ++ List.replicate (4 - (lg_sl ([.ref x0, .int x1, .int x2])).length) Slot.unset).toArray = ls at hl ⊢
  have hl : lv_has ls 4 [(0, .ref x0), (1, .int x1), (2, .int x2)] := hl
  exact bX8_life_b0 C0 Y S _ _ _ h hO hS hl

def rm_X8_slack : Room := { frames := 2, cells := 0, slots := 0, locals := 43 }
def wX8_slack_b29 (x0 : Nat) (x1 : Int32) (x2 : Int32) (Φ : Hp → Int32 → Prop) (S : Hp) (z0 : Nat) (z1 : Int32) : Prop := isA S z0 8 ∧ wX8_isThrown S z0 z1 2 (fun S1 r2 => ((r2 = 0 → isA S1 x0 8 ∧ ∃ a6, S1.FR 530 x0 = some a6 ∧ isA S1 a6 21 ∧ vp_in x1 (S1.N a6) ∧ ∃ a9, S1.FR 530 x0 = some a9 ∧ isA S1 a9 21 ∧ vp_in x1 (S1.N a9) ∧ ∀ S12, S12 = S1.setAI a9 x1.toNatClampNeg x2 → Φ S12 (S1.AI a6 x1.toNatClampNeg)) ∧ (¬ (r2 = 0) → Φ S1 0)))
set_option maxHeartbeats 4000000 in
set_option maxRecDepth 100000 in
theorem bX8_slack_b29 {p : Program} {l : Launch} {e : Env} {s : State} {m : MethodId} {args : Array Value} {below : List Frame} {meth : Method} {c : Code} {G : Gw} {x0 : Nat} {x1 : Int32} {x2 : Int32} {Φ : Hp → Int32 → Prop} (C0 : Mx p s m c cX8_slack 4 args yX8_slack.cls G) (Y : My meth (some .int))  : ∀ (S : Hp) (z0 : Nat) (z1 : Int32) (H : Heap) (locs : List Loc) (ls : Array Slot), wX8_slack_b29 x0 x1 x2 Φ S z0 z1 → Ok G S H → va_S (Ab G.b) s.heap H locs → lv_has ls 4 [(0, .ref x0), (1, .int x1), (2, .int x2)] → W p l e rm_X8_slack s m args below meth c H locs 0 0 (MQ below (gQ G (PI Φ)) args s rm_X8_slack.cells rm_X8_slack.slots (Ab G.b)) (F0 m 29 ls [.int z1, .ref z0]) := by
  intro S z0 z1 H locs ls h hO hS hl
  unfold wX8_slack_b29 at h
  refine lv_iconst (v := 2) C0.1 C0.2.1 dX8_slack_29 (by decide) ?_
  obtain ⟨i3, h⟩ := h
  refine c_V C0 hO hS (mX8_isThrown h) i3 (by decide) rfl rfl tb_1451 tb_1453 tb_37 tb_81 tb_1454 hd_X8_isThrown rfl ⟨⟨by decide, by decide⟩, by decide, by decide⟩ hl.1 rfl (Nat.le_of_ble_eq_true rfl) dX8_slack_30 (kI (fun r2 S1 H locs h hO hS => ?_))
  refine lv_if_eq (tgt := 38) C0.1 C0.2.1 dX8_slack_33 (by decide) (fun c4 => ?_) (fun c4 => ?_)
  · have h := h.1 c4
    refine lv_aload_n C0.1 C0.2.1 dX8_slack_38 rfl (lv_at hl 0 rfl) ?_
    obtain ⟨i5, h⟩ := h
    obtain ⟨a6, ea6, h⟩ := h
    refine g8_18 C0 hO i5 ea6 tb_1346 dX8_slack_39 ?_
    refine lv_iload_n C0.1 C0.2.1 dX8_slack_42 rfl (lv_at hl 1 rfl) ?_
    obtain ⟨i7, h⟩ := h
    obtain ⟨e8, h⟩ := h
    refine r_iald C0 hO i7 e8 dX8_slack_43 ?_
    refine lv_istore_n C0.1 C0.2.1 dX8_slack_44 rfl hl (by decide) rfl (fun ls hl => ?_)
    refine lv_aload_n C0.1 C0.2.1 dX8_slack_45 rfl (lv_at hl 1 rfl) ?_
    obtain ⟨a9, ea9, h⟩ := h
    refine g8_18 C0 hO i5 ea9 tb_1346 dX8_slack_46 ?_
    refine lv_iload_n C0.1 C0.2.1 dX8_slack_49 rfl (lv_at hl 2 rfl) ?_
    refine lv_iload_n C0.1 C0.2.1 dX8_slack_50 rfl (lv_at hl 3 rfl) ?_
    obtain ⟨i10, h⟩ := h
    obtain ⟨e11, h⟩ := h
    refine r_iast C0 hO hS i10 e11 dX8_slack_51 (fun H locs hO hS => ?_)
    have h := h _ rfl
    refine lv_iload_n C0.1 C0.2.1 dX8_slack_52 rfl (lv_at hl 0 rfl) ?_
    exact e_I C0 Y hO hS h (Nat.le_refl _) (Nat.le_refl _) dX8_slack_53
  · have h := h.2 c4
    refine lv_iconst (v := 0) C0.1 C0.2.1 dX8_slack_36 (by decide) ?_
    exact e_I C0 Y hO hS h (Nat.le_refl _) (Nat.le_refl _) dX8_slack_37
def wX8_slack_b0 (x0 : Nat) (x1 : Int32) (x2 : Int32) (Φ : Hp → Int32 → Prop) (S : Hp) : Prop := isA S x0 8 ∧ wX8_isNoLink S x0 x1 (fun S1 r2 => isA S1 x0 8 ∧ wX8_isThrown S1 x0 r2 1 (fun S4 r5 => ((¬ r5 = 0 → Φ S4 0) ∧ (r5 = 0 → wX8_isIn S4 x2 0 99 (fun S8 r9 => ((¬ r9 = 0 → wX8_slack_b29 x0 x1 x2 Φ S8 x0 0) ∧ (r9 = 0 → wX8_slack_b29 x0 x1 x2 Φ S8 x0 1)))))))
set_option maxHeartbeats 4000000 in
set_option maxRecDepth 100000 in
theorem bX8_slack_b0 {p : Program} {l : Launch} {e : Env} {s : State} {m : MethodId} {args : Array Value} {below : List Frame} {meth : Method} {c : Code} {G : Gw} {x0 : Nat} {x1 : Int32} {x2 : Int32} {Φ : Hp → Int32 → Prop} (C0 : Mx p s m c cX8_slack 4 args yX8_slack.cls G) (Y : My meth (some .int))  : ∀ (S : Hp) (H : Heap) (locs : List Loc) (ls : Array Slot), wX8_slack_b0 x0 x1 x2 Φ S → Ok G S H → va_S (Ab G.b) s.heap H locs → lv_has ls 4 [(0, .ref x0), (1, .int x1), (2, .int x2)] → W p l e rm_X8_slack s m args below meth c H locs 0 0 (MQ below (gQ G (PI Φ)) args s rm_X8_slack.cells rm_X8_slack.slots (Ab G.b)) (F0 m 0 ls []) := by
  intro S H locs ls h hO hS hl
  unfold wX8_slack_b0 at h
  refine lv_aload_n C0.1 C0.2.1 dX8_slack_0 rfl (lv_at hl 0 rfl) ?_
  refine lv_aload_n C0.1 C0.2.1 dX8_slack_1 rfl (lv_at hl 0 rfl) ?_
  refine lv_iload_n C0.1 C0.2.1 dX8_slack_2 rfl (lv_at hl 1 rfl) ?_
  obtain ⟨i3, h⟩ := h
  refine c_V C0 hO hS (mX8_isNoLink h) i3 (by decide) rfl rfl tb_1506 tb_1508 tb_45 tb_81 tb_1509 hd_X8_isNoLink rfl ⟨⟨by decide, by decide⟩, by decide, by decide⟩ hl.1 rfl (Nat.le_of_ble_eq_true rfl) dX8_slack_3 (kI (fun r2 S1 H locs h hO hS => ?_))
  refine lv_iconst (v := 1) C0.1 C0.2.1 dX8_slack_6 (by decide) ?_
  obtain ⟨i6, h⟩ := h
  refine c_V C0 hO hS (mX8_isThrown h) i6 (by decide) rfl rfl tb_1451 tb_1453 tb_37 tb_81 tb_1454 hd_X8_isThrown rfl ⟨⟨by decide, by decide⟩, by decide, by decide⟩ hl.1 rfl (Nat.le_of_ble_eq_true rfl) dX8_slack_7 (kI (fun r5 S4 H locs h hO hS => ?_))
  refine lv_if_ne (tgt := 36) C0.1 C0.2.1 dX8_slack_10 (by decide) (fun c7 => ?_) (fun c7 => ?_)
  · have h := h.1 c7
    refine lv_iconst (v := 0) C0.1 C0.2.1 dX8_slack_36 (by decide) ?_
    exact e_I C0 Y hO hS h (Nat.le_refl _) (Nat.le_refl _) dX8_slack_37
  · have h := h.2 c7
    refine lv_aload_n C0.1 C0.2.1 dX8_slack_13 rfl (lv_at hl 0 rfl) ?_
    refine lv_iload_n C0.1 C0.2.1 dX8_slack_14 rfl (lv_at hl 2 rfl) ?_
    refine lv_iconst (v := 0) C0.1 C0.2.1 dX8_slack_15 (by decide) ?_
    refine lv_bipush (v := 99) C0.1 C0.2.1 dX8_slack_16 (by decide) ?_
    refine c_S C0 hO hS (mX8_isIn h) tb_1463 tb_1464 tb_81 tb_1465 hd_X8_isIn rfl ⟨⟨by decide, by decide⟩, by decide, by decide⟩ hl.1 rfl (Nat.le_of_ble_eq_true rfl) dX8_slack_18 (kI (fun r9 S8 H locs h hO hS => ?_))
    refine lv_if_ne (tgt := 28) C0.1 C0.2.1 dX8_slack_21 (by decide) (fun c10 => ?_) (fun c10 => ?_)
    · have h := h.1 c10
      refine lv_iconst (v := 0) C0.1 C0.2.1 dX8_slack_28 (by decide) ?_
      exact bX8_slack_b29 C0 Y _ _ _ _ _ _ h hO hS (lv_sub hl [0, 1, 2] rfl)
    · have h := h.2 c10
      refine lv_iconst (v := 1) C0.1 C0.2.1 dX8_slack_24 (by decide) ?_
      refine lv_goto (tgt := 29) C0.1 C0.2.1 dX8_slack_25 (by decide) ?_
      exact bX8_slack_b29 C0 Y _ _ _ _ _ _ h hO hS (lv_sub hl [0, 1, 2] rfl)
def wX8_slack (S : Hp) (x0 : Nat) (x1 : Int32) (x2 : Int32) (Φ : Hp → Int32 → Prop) : Prop := wX8_slack_b0 x0 x1 x2 Φ S
set_option maxRecDepth 100000 in
theorem mX8_slack {l : Launch} {G : Gw} {S : Hp} {x0 : Nat} {x1 : Int32} {x2 : Int32} {Φ : Hp → Int32 → Prop} (h : wX8_slack S x0 x1 x2 Φ) : gM l yX8_slack cX8_slack 4 (some .int) rm_X8_slack [.ref x0, .int x1, .int x2] G S (PI Φ) := by
  unfold gM
  refine Met.ofW (cc := cX8_slack) (maxL := 4) (ret := (some .int)) (by decide) rfl ?_
  intro p e s m args below meth c s₁ B hml hv
  obtain ⟨rfl, hw⟩ := hv
  obtain ⟨C0, Y, hO⟩ := mx_of B hml hw
  have hS : va_S (Ab G.b) s.heap s.heap [] := va_S.rf
  have hl := lv_entry ([.ref x0, .int x1, .int x2]) (n := 4) (Nat.le_of_ble_eq_true rfl)
  rw [lg_entry_eq]
  generalize (lg_sl ([.ref x0, .int x1, .int x2]) ++ List.replicate (4 - (lg_sl ([.ref x0, .int x1, .int x2])).length) Slot.unset).toArray = ls at hl ⊢
  have hl : lv_has ls 4 [(0, .ref x0), (1, .int x1), (2, .int x2)] := hl
  exact bX8_slack_b0 C0 Y S _ _ _ h hO hS hl

def rm_X8_isBehind (d : Nat) : Room := { frames := 0 + d, cells := 0, slots := 0, locals := 0 + d * 23 }
def wX8_isBehind_b57 (rec : Hp → Nat → Int32 → Int32 → (Hp → Int32 → Prop) → Prop) (x0 : Nat) (x1 : Int32) (x2 : Int32) (Φ : Hp → Int32 → Prop) (S : Hp) : Prop := Φ S 1
set_option maxHeartbeats 4000000 in
set_option maxRecDepth 100000 in
theorem bX8_isBehind_b57 {p : Program} {l : Launch} {e : Env} {s : State} {m : MethodId} {args : Array Value} {below : List Frame} {meth : Method} {c : Code} {G : Gw} {rec : Hp → Nat → Int32 → Int32 → (Hp → Int32 → Prop) → Prop} {x0 : Nat} {x1 : Int32} {x2 : Int32} {Φ : Hp → Int32 → Prop} (C0 : Mx p s m c cX8_isBehind 4 args yX8_isBehind.cls G) (Y : My meth (some .boolean)) {d9 : Nat} (ihr : ∀ {S : Hp} {x0 : Nat} {x1 : Int32} {x2 : Int32} {Φ : Hp → Int32 → Prop}, rec S x0 x1 x2 Φ → gM l yX8_isBehind cX8_isBehind 4 (some .boolean) (rm_X8_isBehind d9) [.ref x0, .int x1, .int x2] G S (PI Φ))  : ∀ (S : Hp) (H : Heap) (locs : List Loc) (ls : Array Slot), wX8_isBehind_b57 rec x0 x1 x2 Φ S → Ok G S H → va_S (Ab G.b) s.heap H locs → lv_has ls 4 [(0, .ref x0), (1, .int x1), (2, .int x2)] → W p l e (rm_X8_isBehind (d9 + 1)) s m args below meth c H locs 0 0 (MQ below (gQ G (PI Φ)) args s (rm_X8_isBehind (d9 + 1)).cells (rm_X8_isBehind (d9 + 1)).slots (Ab G.b)) (F0 m 57 ls []) := by
  intro S H locs ls h hO hS hl
  unfold wX8_isBehind_b57 at h
  refine lv_iconst (v := 1) C0.1 C0.2.1 dX8_isBehind_57 (by decide) ?_
  refine lv_goto (tgt := 62) C0.1 C0.2.1 dX8_isBehind_58 (by decide) ?_
  exact e_Z C0 Y hO hS rfl h (Nat.le_refl _) (Nat.le_refl _) dX8_isBehind_62
def wX8_isBehind_b0 (rec : Hp → Nat → Int32 → Int32 → (Hp → Int32 → Prop) → Prop) (x0 : Nat) (x1 : Int32) (x2 : Int32) (Φ : Hp → Int32 → Prop) (S : Hp) : Prop := ((¬ x1 = x2 → isA S x0 8 ∧ ∃ a3, S.FR 519 x0 = some a3 ∧ isA S a3 21 ∧ vp_in x1 (S.N a3) ∧ (((S.AI a3 x1.toNatClampNeg) = (-1) → Φ S 0) ∧ (¬ ((S.AI a3 x1.toNatClampNeg) = (-1)) → ∃ a7, S.FR 522 x0 = some a7 ∧ isA S a7 21 ∧ vp_in (S.AI a3 x1.toNatClampNeg) (S.N a7) ∧ rec S x0 (S.AI a7 ((S.AI a3 x1.toNatClampNeg).toNatClampNeg)) x2 (fun S10 r11 => ((¬ r11 = 0 → wX8_isBehind_b57 rec x0 x1 x2 Φ S10) ∧ (r11 = 0 → isA S10 x0 8 ∧ ∃ a14, S10.FR 523 x0 = some a14 ∧ isA S10 a14 21 ∧ vp_in (S.AI a3 x1.toNatClampNeg) (S10.N a14) ∧ (((S10.AI a14 ((S.AI a3 x1.toNatClampNeg).toNatClampNeg)) = (-1) → Φ S10 0) ∧ (¬ ((S10.AI a14 ((S.AI a3 x1.toNatClampNeg).toNatClampNeg)) = (-1)) → ∃ a18, S10.FR 523 x0 = some a18 ∧ isA S10 a18 21 ∧ vp_in (S.AI a3 x1.toNatClampNeg) (S10.N a18) ∧ rec S10 x0 (S10.AI a18 ((S.AI a3 x1.toNatClampNeg).toNatClampNeg)) x2 (fun S21 r22 => ((r22 = 0 → Φ S21 0) ∧ (¬ (r22 = 0) → wX8_isBehind_b57 rec x0 x1 x2 Φ S21))))))))))) ∧ (x1 = x2 → Φ S 1))
set_option maxHeartbeats 4000000 in
set_option maxRecDepth 100000 in
theorem bX8_isBehind_b0 {p : Program} {l : Launch} {e : Env} {s : State} {m : MethodId} {args : Array Value} {below : List Frame} {meth : Method} {c : Code} {G : Gw} {rec : Hp → Nat → Int32 → Int32 → (Hp → Int32 → Prop) → Prop} {x0 : Nat} {x1 : Int32} {x2 : Int32} {Φ : Hp → Int32 → Prop} (C0 : Mx p s m c cX8_isBehind 4 args yX8_isBehind.cls G) (Y : My meth (some .boolean)) {d9 : Nat} (ihr : ∀ {S : Hp} {x0 : Nat} {x1 : Int32} {x2 : Int32} {Φ : Hp → Int32 → Prop}, rec S x0 x1 x2 Φ → gM l yX8_isBehind cX8_isBehind 4 (some .boolean) (rm_X8_isBehind d9) [.ref x0, .int x1, .int x2] G S (PI Φ))  : ∀ (S : Hp) (H : Heap) (locs : List Loc) (ls : Array Slot), wX8_isBehind_b0 rec x0 x1 x2 Φ S → Ok G S H → va_S (Ab G.b) s.heap H locs → lv_has ls 4 [(0, .ref x0), (1, .int x1), (2, .int x2)] → W p l e (rm_X8_isBehind (d9 + 1)) s m args below meth c H locs 0 0 (MQ below (gQ G (PI Φ)) args s (rm_X8_isBehind (d9 + 1)).cells (rm_X8_isBehind (d9 + 1)).slots (Ab G.b)) (F0 m 0 ls []) := by
  intro S H locs ls h hO hS hl
  unfold wX8_isBehind_b0 at h
  refine lv_iload_n C0.1 C0.2.1 dX8_isBehind_0 rfl (lv_at hl 1 rfl) ?_
  refine lv_iload_n C0.1 C0.2.1 dX8_isBehind_1 rfl (lv_at hl 2 rfl) ?_
  refine lv_icmp_ne (tgt := 7) C0.1 C0.2.1 dX8_isBehind_2 (by decide) (fun c1 => ?_) (fun c1 => ?_)
  · have h := h.1 c1
    refine lv_aload_n C0.1 C0.2.1 dX8_isBehind_7 rfl (lv_at hl 0 rfl) ?_
    obtain ⟨i2, h⟩ := h
    obtain ⟨a3, ea3, h⟩ := h
    refine g8_7 C0 hO i2 ea3 tb_1335 dX8_isBehind_8 ?_
    refine lv_iload_n C0.1 C0.2.1 dX8_isBehind_11 rfl (lv_at hl 1 rfl) ?_
    obtain ⟨i4, h⟩ := h
    obtain ⟨e5, h⟩ := h
    refine r_iald C0 hO i4 e5 dX8_isBehind_12 ?_
    refine lv_istore_n C0.1 C0.2.1 dX8_isBehind_13 rfl hl (by decide) rfl (fun ls hl => ?_)
    refine lv_iload_n C0.1 C0.2.1 dX8_isBehind_14 rfl (lv_at hl 0 rfl) ?_
    refine lv_iconst (v := (-1)) C0.1 C0.2.1 dX8_isBehind_15 (by decide) ?_
    refine lv_icmp_eq (tgt := 61) C0.1 C0.2.1 dX8_isBehind_16 (by decide) (fun c6 => ?_) (fun c6 => ?_)
    · have h := h.1 c6
      refine lv_iconst (v := 0) C0.1 C0.2.1 dX8_isBehind_61 (by decide) ?_
      exact e_Z C0 Y hO hS rfl h (Nat.le_refl _) (Nat.le_refl _) dX8_isBehind_62
    · have h := h.2 c6
      refine lv_aload_n C0.1 C0.2.1 dX8_isBehind_19 rfl (lv_at hl 1 rfl) ?_
      refine lv_aload_n C0.1 C0.2.1 dX8_isBehind_20 rfl (lv_at hl 1 rfl) ?_
      obtain ⟨a7, ea7, h⟩ := h
      refine g8_10 C0 hO i2 ea7 tb_1338 dX8_isBehind_21 ?_
      refine lv_iload_n C0.1 C0.2.1 dX8_isBehind_24 rfl (lv_at hl 0 rfl) ?_
      obtain ⟨i8, h⟩ := h
      obtain ⟨e9, h⟩ := h
      refine r_iald C0 hO i8 e9 dX8_isBehind_25 ?_
      refine lv_iload_n C0.1 C0.2.1 dX8_isBehind_26 rfl (lv_at hl 3 rfl) ?_
      refine c_V C0 hO hS (ihr h) i2 (by decide) rfl rfl tb_1522 tb_1524 tb_46 tb_81 tb_1525 hd_X8_isBehind rfl ⟨⟨by simp only [rm_X8_isBehind]; omega, by simp only [rm_X8_isBehind]; omega⟩, Nat.le_refl _, Nat.le_refl _⟩ hl.1 rfl (Nat.le_of_ble_eq_true rfl) dX8_isBehind_27 (kI (fun r11 S10 H locs h hO hS => ?_))
      refine lv_if_ne (tgt := 57) C0.1 C0.2.1 dX8_isBehind_30 (by decide) (fun c12 => ?_) (fun c12 => ?_)
      · have h := h.1 c12
        exact bX8_isBehind_b57 C0 Y ihr _ _ _ _ h hO hS (lv_sub hl [1, 2, 3] rfl)
      · have h := h.2 c12
        refine lv_aload_n C0.1 C0.2.1 dX8_isBehind_33 rfl (lv_at hl 1 rfl) ?_
        obtain ⟨i13, h⟩ := h
        obtain ⟨a14, ea14, h⟩ := h
        refine g8_11 C0 hO i13 ea14 tb_1339 dX8_isBehind_34 ?_
        refine lv_iload_n C0.1 C0.2.1 dX8_isBehind_37 rfl (lv_at hl 0 rfl) ?_
        obtain ⟨i15, h⟩ := h
        obtain ⟨e16, h⟩ := h
        refine r_iald C0 hO i15 e16 dX8_isBehind_38 ?_
        refine lv_iconst (v := (-1)) C0.1 C0.2.1 dX8_isBehind_39 (by decide) ?_
        refine lv_icmp_eq (tgt := 61) C0.1 C0.2.1 dX8_isBehind_40 (by decide) (fun c17 => ?_) (fun c17 => ?_)
        · have h := h.1 c17
          refine lv_iconst (v := 0) C0.1 C0.2.1 dX8_isBehind_61 (by decide) ?_
          exact e_Z C0 Y hO hS rfl h (Nat.le_refl _) (Nat.le_refl _) dX8_isBehind_62
        · have h := h.2 c17
          refine lv_aload_n C0.1 C0.2.1 dX8_isBehind_43 rfl (lv_at hl 1 rfl) ?_
          refine lv_aload_n C0.1 C0.2.1 dX8_isBehind_44 rfl (lv_at hl 1 rfl) ?_
          obtain ⟨a18, ea18, h⟩ := h
          refine g8_11 C0 hO i13 ea18 tb_1339 dX8_isBehind_45 ?_
          refine lv_iload_n C0.1 C0.2.1 dX8_isBehind_48 rfl (lv_at hl 0 rfl) ?_
          obtain ⟨i19, h⟩ := h
          obtain ⟨e20, h⟩ := h
          refine r_iald C0 hO i19 e20 dX8_isBehind_49 ?_
          refine lv_iload_n C0.1 C0.2.1 dX8_isBehind_50 rfl (lv_at hl 3 rfl) ?_
          refine c_V C0 hO hS (ihr h) i13 (by decide) rfl rfl tb_1522 tb_1524 tb_46 tb_81 tb_1525 hd_X8_isBehind rfl ⟨⟨by simp only [rm_X8_isBehind]; omega, by simp only [rm_X8_isBehind]; omega⟩, Nat.le_refl _, Nat.le_refl _⟩ hl.1 rfl (Nat.le_of_ble_eq_true rfl) dX8_isBehind_51 (kI (fun r22 S21 H locs h hO hS => ?_))
          refine lv_if_eq (tgt := 61) C0.1 C0.2.1 dX8_isBehind_54 (by decide) (fun c23 => ?_) (fun c23 => ?_)
          · have h := h.1 c23
            refine lv_iconst (v := 0) C0.1 C0.2.1 dX8_isBehind_61 (by decide) ?_
            exact e_Z C0 Y hO hS rfl h (Nat.le_refl _) (Nat.le_refl _) dX8_isBehind_62
          · have h := h.2 c23
            exact bX8_isBehind_b57 C0 Y ihr _ _ _ _ h hO hS (lv_sub hl [1, 2, 3] rfl)
  · have h := h.2 c1
    refine lv_iconst (v := 1) C0.1 C0.2.1 dX8_isBehind_5 (by decide) ?_
    exact e_Z C0 Y hO hS rfl h (Nat.le_refl _) (Nat.le_refl _) dX8_isBehind_6
def wX8_isBehind : Nat → Hp → Nat → Int32 → Int32 → (Hp → Int32 → Prop) → Prop
  | 0 => fun _ _ _ _ _ => False
  | d + 1 => fun S x0 x1 x2 Φ => wX8_isBehind_b0 (wX8_isBehind d) x0 x1 x2 Φ S
set_option maxRecDepth 100000 in
theorem mX8_isBehind {l : Launch} {G : Gw} : ∀ (d : Nat) {S : Hp} {x0 : Nat} {x1 : Int32} {x2 : Int32} {Φ : Hp → Int32 → Prop}, wX8_isBehind d S x0 x1 x2 Φ → gM l yX8_isBehind cX8_isBehind 4 (some .boolean) (rm_X8_isBehind d) [.ref x0, .int x1, .int x2] G S (PI Φ) := by
  intro d
  induction d with
  | zero => intro S x0 x1 x2 Φ h; exact (h : False).elim
  | succ d9 ih =>
    intro S x0 x1 x2 Φ h
    unfold gM
    refine Met.ofW (cc := cX8_isBehind) (maxL := 4) (ret := (some .boolean)) (by decide) rfl ?_
    intro p e s m args below meth c s₁ B hml hv
    obtain ⟨rfl, hw⟩ := hv
    obtain ⟨C0, Y, hO⟩ := mx_of B hml hw
    have hS : va_S (Ab G.b) s.heap s.heap [] := va_S.rf
    have hl := lv_entry ([.ref x0, .int x1, .int x2]) (n := 4) (Nat.le_of_ble_eq_true rfl)
    rw [lg_entry_eq]
    generalize (lg_sl ([.ref x0, .int x1, .int x2]) ++ List.replicate (4 - (lg_sl ([.ref x0, .int x1, .int x2])).length) Slot.unset).toArray = ls at hl ⊢
    have hl : lv_has ls 4 [(0, .ref x0), (1, .int x1), (2, .int x2)] := hl
    exact bX8_isBehind_b0 C0 Y (fun h => ih h) S _ _ _ h hO hS hl

def rm_X8_follow : Room := { frames := 4, cells := 0, slots := 0, locals := 102 }
def wX8_follow_b0 (x0 : Nat) (x1 : Int32) (Φ : Hp → Prop) (S : Hp) : Prop := isA S x0 8 ∧ ∃ a2, S.FR 519 x0 = some a2 ∧ isA S a2 21 ∧ vp_in x1 (S.N a2) ∧ ∃ a5, S.FR 522 x0 = some a5 ∧ isA S a5 21 ∧ vp_in (S.AI a2 x1.toNatClampNeg) (S.N a5) ∧ ∀ S8, S8 = S.setFJ 547 x0 0 → ∀ S9, S9 = S8.setFJ 548 x0 1 → ∃ a10, S9.FR 528 x0 = some a10 ∧ isA S9 a10 23 ∧ vp_in (S.AI a2 x1.toNatClampNeg) (S9.N a10) ∧ ((¬ (S9.AI a10 ((S.AI a2 x1.toNatClampNeg).toNatClampNeg)) = 0 → Φ S9) ∧ ((S9.AI a10 ((S.AI a2 x1.toNatClampNeg).toNatClampNeg)) = 0 → ∃ a14, S9.FR 527 x0 = some a14 ∧ isA S9 a14 23 ∧ vp_in (S.AI a2 x1.toNatClampNeg) (S9.N a14) ∧ (((S9.AI a14 ((S.AI a2 x1.toNatClampNeg).toNatClampNeg)) = 0 → ∃ a18, S9.FR 525 x0 = some a18 ∧ isA S9 a18 21 ∧ vp_in (S.AI a2 x1.toNatClampNeg) (S9.N a18) ∧ ∃ a21, S9.FR 526 x0 = some a21 ∧ isA S9 a21 21 ∧ vp_in (S.AI a2 x1.toNatClampNeg) (S9.N a21) ∧ ∃ a24, S9.FR 521 x0 = some a24 ∧ isA S9 a24 20 ∧ vp_in (S.AI a2 x1.toNatClampNeg) (S9.N a24) ∧ (((S9.AI a24 ((S.AI a2 x1.toNatClampNeg).toNatClampNeg)) = 103 → ∃ a28, S9.FR 514 x0 = some a28 ∧ isA S9 a28 22 ∧ vp_in (S.AI a5 ((S.AI a2 x1.toNatClampNeg).toNatClampNeg)) (S9.N a28) ∧ ∃ a31, S9.FR 515 x0 = some a31 ∧ isA S9 a31 22 ∧ vp_in (S.AI a5 ((S.AI a2 x1.toNatClampNeg).toNatClampNeg)) (S9.N a31) ∧ wX8_product S9 x0 (-(S9.AJ a28 ((S.AI a5 ((S.AI a2 x1.toNatClampNeg).toNatClampNeg)).toNatClampNeg))) (S9.AJ a31 ((S.AI a5 ((S.AI a2 x1.toNatClampNeg).toNatClampNeg)).toNatClampNeg)) ((S9.AI a18 ((S.AI a2 x1.toNatClampNeg).toNatClampNeg)).toInt64) ((S9.AI a21 ((S.AI a2 x1.toNatClampNeg).toNatClampNeg)).toInt64) (fun S34 => Φ S34)) ∧ (¬ ((S9.AI a24 ((S.AI a2 x1.toNatClampNeg).toNatClampNeg)) = 103) → (((S9.AI a24 ((S.AI a2 x1.toNatClampNeg).toNatClampNeg)) = 105 → ∃ a36, S9.FR 514 x0 = some a36 ∧ isA S9 a36 22 ∧ vp_in (S.AI a5 ((S.AI a2 x1.toNatClampNeg).toNatClampNeg)) (S9.N a36) ∧ ∃ a39, S9.FR 515 x0 = some a39 ∧ isA S9 a39 22 ∧ vp_in (S.AI a5 ((S.AI a2 x1.toNatClampNeg).toNatClampNeg)) (S9.N a39) ∧ wX8_product S9 x0 (S9.AJ a36 ((S.AI a5 ((S.AI a2 x1.toNatClampNeg).toNatClampNeg)).toNatClampNeg)) (S9.AJ a39 ((S.AI a5 ((S.AI a2 x1.toNatClampNeg).toNatClampNeg)).toNatClampNeg)) ((S9.AI a18 ((S.AI a2 x1.toNatClampNeg).toNatClampNeg)).toInt64) ((S9.AI a21 ((S.AI a2 x1.toNatClampNeg).toNatClampNeg)).toInt64) (fun S42 => Φ S42)) ∧ (¬ ((S9.AI a24 ((S.AI a2 x1.toNatClampNeg).toNatClampNeg)) = 105) → (((S9.AI a24 ((S.AI a2 x1.toNatClampNeg).toNatClampNeg)) = 107 → ∃ a44, S9.FR 514 x0 = some a44 ∧ isA S9 a44 22 ∧ vp_in (S.AI a5 ((S.AI a2 x1.toNatClampNeg).toNatClampNeg)) (S9.N a44) ∧ ∃ a47, S9.FR 515 x0 = some a47 ∧ isA S9 a47 22 ∧ vp_in (S.AI a5 ((S.AI a2 x1.toNatClampNeg).toNatClampNeg)) (S9.N a47) ∧ wX8_result S9 x0 (S9.AJ a44 ((S.AI a5 ((S.AI a2 x1.toNatClampNeg).toNatClampNeg)).toNatClampNeg)) (S9.AJ a47 ((S.AI a5 ((S.AI a2 x1.toNatClampNeg).toNatClampNeg)).toNatClampNeg)) (fun S50 => Φ S50)) ∧ (¬ ((S9.AI a24 ((S.AI a2 x1.toNatClampNeg).toNatClampNeg)) = 107) → (((S9.AI a24 ((S.AI a2 x1.toNatClampNeg).toNatClampNeg)) = 114 → ∃ a52, S9.FR 512 x0 = some a52 ∧ isA S9 a52 22 ∧ vp_in (S.AI a5 ((S.AI a2 x1.toNatClampNeg).toNatClampNeg)) (S9.N a52) ∧ ∃ a55, S9.FR 513 x0 = some a55 ∧ isA S9 a55 22 ∧ vp_in (S.AI a5 ((S.AI a2 x1.toNatClampNeg).toNatClampNeg)) (S9.N a55) ∧ ∃ a58, S9.FR 514 x0 = some a58 ∧ isA S9 a58 22 ∧ vp_in (S.AI a5 ((S.AI a2 x1.toNatClampNeg).toNatClampNeg)) (S9.N a58) ∧ ∃ a61, S9.FR 515 x0 = some a61 ∧ isA S9 a61 22 ∧ vp_in (S.AI a5 ((S.AI a2 x1.toNatClampNeg).toNatClampNeg)) (S9.N a61) ∧ wX8_sum S9 x0 (S9.AJ a52 ((S.AI a5 ((S.AI a2 x1.toNatClampNeg).toNatClampNeg)).toNatClampNeg)) (S9.AJ a55 ((S.AI a5 ((S.AI a2 x1.toNatClampNeg).toNatClampNeg)).toNatClampNeg)) (S9.AJ a58 ((S.AI a5 ((S.AI a2 x1.toNatClampNeg).toNatClampNeg)).toNatClampNeg)) (S9.AJ a61 ((S.AI a5 ((S.AI a2 x1.toNatClampNeg).toNatClampNeg)).toNatClampNeg)) (fun S64 => isA S64 x0 8 ∧ wX8_floor S64 ((S9.AI a18 ((S.AI a2 x1.toNatClampNeg).toNatClampNeg)).toInt64) (S64.FJ 547 x0) (S64.FJ 548 x0) (fun S66 r67 => isA S66 x0 8 ∧ ∃ a69, S66.FR 533 x0 = some a69 ∧ isA S66 a69 22 ∧ vp_in (S.AI a2 x1.toNatClampNeg) (S66.N a69) ∧ wX8_result S66 x0 (if (r67 - (S66.AJ a69 ((S.AI a2 x1.toNatClampNeg).toNatClampNeg))) < 0 then 0 else (r67 - (S66.AJ a69 ((S.AI a2 x1.toNatClampNeg).toNatClampNeg)))) ((S9.AI a18 ((S.AI a2 x1.toNatClampNeg).toNatClampNeg)).toInt64) (fun S72 => isA S72 x0 8 ∧ ∃ a74, S72.FR 533 x0 = some a74 ∧ ∃ a75, S72.FR 533 x0 = some a75 ∧ isA S72 a75 22 ∧ vp_in (S.AI a2 x1.toNatClampNeg) (S72.N a75) ∧ isA S72 a74 22 ∧ vp_in (S.AI a2 x1.toNatClampNeg) (S72.N a74) ∧ ∀ S80, S80 = S72.setAJ a74 ((S.AI a2 x1.toNatClampNeg).toNatClampNeg) (if r67 < (S72.AJ a75 ((S.AI a2 x1.toNatClampNeg).toNatClampNeg)) then (S72.AJ a75 ((S.AI a2 x1.toNatClampNeg).toNatClampNeg)) else r67) → Φ S80)))) ∧ (¬ ((S9.AI a24 ((S.AI a2 x1.toNatClampNeg).toNatClampNeg)) = 114) → (((S9.AI a24 ((S.AI a2 x1.toNatClampNeg).toNatClampNeg)) = 118 → ∃ a82, S9.FR 512 x0 = some a82 ∧ isA S9 a82 22 ∧ vp_in (S.AI a5 ((S.AI a2 x1.toNatClampNeg).toNatClampNeg)) (S9.N a82) ∧ ∃ a85, S9.FR 513 x0 = some a85 ∧ isA S9 a85 22 ∧ vp_in (S.AI a5 ((S.AI a2 x1.toNatClampNeg).toNatClampNeg)) (S9.N a85) ∧ ∃ a88, S9.FR 514 x0 = some a88 ∧ isA S9 a88 22 ∧ vp_in (S.AI a5 ((S.AI a2 x1.toNatClampNeg).toNatClampNeg)) (S9.N a88) ∧ ∃ a91, S9.FR 515 x0 = some a91 ∧ isA S9 a91 22 ∧ vp_in (S.AI a5 ((S.AI a2 x1.toNatClampNeg).toNatClampNeg)) (S9.N a91) ∧ wX8_sum S9 x0 (S9.AJ a82 ((S.AI a5 ((S.AI a2 x1.toNatClampNeg).toNatClampNeg)).toNatClampNeg)) (S9.AJ a85 ((S.AI a5 ((S.AI a2 x1.toNatClampNeg).toNatClampNeg)).toNatClampNeg)) (S9.AJ a88 ((S.AI a5 ((S.AI a2 x1.toNatClampNeg).toNatClampNeg)).toNatClampNeg)) (S9.AJ a91 ((S.AI a5 ((S.AI a2 x1.toNatClampNeg).toNatClampNeg)).toNatClampNeg)) (fun S94 => isA S94 x0 8 ∧ wX8_floor S94 1 (S94.FJ 547 x0) (S94.FJ 548 x0) (fun S96 r97 => isA S96 x0 8 ∧ ∃ a99, S96.FR 512 x0 = some a99 ∧ isA S96 a99 22 ∧ vp_in (S.AI a5 ((S.AI a2 x1.toNatClampNeg).toNatClampNeg)) (S96.N a99) ∧ ∃ a102, S96.FR 513 x0 = some a102 ∧ isA S96 a102 22 ∧ vp_in (S.AI a5 ((S.AI a2 x1.toNatClampNeg).toNatClampNeg)) (S96.N a102) ∧ wX8_floor S96 1 (S96.AJ a99 ((S.AI a5 ((S.AI a2 x1.toNatClampNeg).toNatClampNeg)).toNatClampNeg)) (S96.AJ a102 ((S.AI a5 ((S.AI a2 x1.toNatClampNeg).toNatClampNeg)).toNatClampNeg)) (fun S105 r106 => isA S105 x0 8 ∧ wX8_result S105 x0 (r97 - r106) ((S9.AI a18 ((S.AI a2 x1.toNatClampNeg).toNatClampNeg)).toInt64) (fun S107 => Φ S107))))) ∧ (¬ ((S9.AI a24 ((S.AI a2 x1.toNatClampNeg).toNatClampNeg)) = 118) → ∃ a109, S9.FR 514 x0 = some a109 ∧ isA S9 a109 22 ∧ vp_in (S.AI a5 ((S.AI a2 x1.toNatClampNeg).toNatClampNeg)) (S9.N a109) ∧ ∃ a112, S9.FR 515 x0 = some a112 ∧ isA S9 a112 22 ∧ vp_in (S.AI a5 ((S.AI a2 x1.toNatClampNeg).toNatClampNeg)) (S9.N a112) ∧ wX8_product S9 x0 (S9.AJ a109 ((S.AI a5 ((S.AI a2 x1.toNatClampNeg).toNatClampNeg)).toNatClampNeg)) (S9.AJ a112 ((S.AI a5 ((S.AI a2 x1.toNatClampNeg).toNatClampNeg)).toNatClampNeg)) ((S9.AI a18 ((S.AI a2 x1.toNatClampNeg).toNatClampNeg)).toInt64) (((S9.AI a18 ((S.AI a2 x1.toNatClampNeg).toNatClampNeg)).toInt64) + ((S9.AI a21 ((S.AI a2 x1.toNatClampNeg).toNatClampNeg)).toInt64)) (fun S115 => isA S115 x0 8 ∧ ∃ a117, S115.FR 514 x0 = some a117 ∧ ∃ a118, S115.FR 523 x0 = some a118 ∧ isA S115 a118 21 ∧ vp_in (S.AI a2 x1.toNatClampNeg) (S115.N a118) ∧ isA S115 a117 22 ∧ vp_in (S115.AI a118 ((S.AI a2 x1.toNatClampNeg).toNatClampNeg)) (S115.N a117) ∧ ∃ a123, S115.FR 515 x0 = some a123 ∧ ∃ a124, S115.FR 523 x0 = some a124 ∧ isA S115 a124 21 ∧ vp_in (S.AI a2 x1.toNatClampNeg) (S115.N a124) ∧ isA S115 a123 22 ∧ vp_in (S115.AI a124 ((S.AI a2 x1.toNatClampNeg).toNatClampNeg)) (S115.N a123) ∧ wX8_product S115 x0 (S115.AJ a117 ((S115.AI a118 ((S.AI a2 x1.toNatClampNeg).toNatClampNeg)).toNatClampNeg)) (S115.AJ a123 ((S115.AI a124 ((S.AI a2 x1.toNatClampNeg).toNatClampNeg)).toNatClampNeg)) ((S9.AI a21 ((S.AI a2 x1.toNatClampNeg).toNatClampNeg)).toInt64) (((S9.AI a18 ((S.AI a2 x1.toNatClampNeg).toNatClampNeg)).toInt64) + ((S9.AI a21 ((S.AI a2 x1.toNatClampNeg).toNatClampNeg)).toInt64)) (fun S129 => isA S129 x0 8 ∧ wX8_sum S129 x0 (S115.FJ 547 x0) (S115.FJ 548 x0) (S129.FJ 547 x0) (S129.FJ 548 x0) (fun S131 => Φ S131)))))))))))))) ∧ (¬ ((S9.AI a14 ((S.AI a2 x1.toNatClampNeg).toNatClampNeg)) = 0) → Φ S9))))
set_option maxHeartbeats 4000000 in
set_option maxRecDepth 100000 in
theorem bX8_follow_b0 {p : Program} {l : Launch} {e : Env} {s : State} {m : MethodId} {args : Array Value} {below : List Frame} {meth : Method} {c : Code} {G : Gw} {x0 : Nat} {x1 : Int32} {Φ : Hp → Prop} (C0 : Mx p s m c cX8_follow 14 args yX8_follow.cls G) (Y : My meth none)  : ∀ (S : Hp) (H : Heap) (locs : List Loc) (ls : Array Slot), wX8_follow_b0 x0 x1 Φ S → Ok G S H → va_S (Ab G.b) s.heap H locs → lv_has ls 14 [(0, .ref x0), (1, .int x1)] → W p l e rm_X8_follow s m args below meth c H locs 0 0 (MQ below (gQ G (PV Φ)) args s rm_X8_follow.cells rm_X8_follow.slots (Ab G.b)) (F0 m 0 ls []) := by
  intro S H locs ls h hO hS hl
  unfold wX8_follow_b0 at h
  refine lv_aload_n C0.1 C0.2.1 dX8_follow_0 rfl (lv_at hl 0 rfl) ?_
  obtain ⟨i1, h⟩ := h
  obtain ⟨a2, ea2, h⟩ := h
  refine g8_7 C0 hO i1 ea2 tb_1335 dX8_follow_1 ?_
  refine lv_iload_n C0.1 C0.2.1 dX8_follow_4 rfl (lv_at hl 1 rfl) ?_
  obtain ⟨i3, h⟩ := h
  obtain ⟨e4, h⟩ := h
  refine r_iald C0 hO i3 e4 dX8_follow_5 ?_
  refine lv_istore_n C0.1 C0.2.1 dX8_follow_6 rfl hl (by decide) rfl (fun ls hl => ?_)
  refine lv_aload_n C0.1 C0.2.1 dX8_follow_7 rfl (lv_at hl 1 rfl) ?_
  obtain ⟨a5, ea5, h⟩ := h
  refine g8_10 C0 hO i1 ea5 tb_1338 dX8_follow_8 ?_
  refine lv_iload_n C0.1 C0.2.1 dX8_follow_11 rfl (lv_at hl 0 rfl) ?_
  obtain ⟨i6, h⟩ := h
  obtain ⟨e7, h⟩ := h
  refine r_iald C0 hO i6 e7 dX8_follow_12 ?_
  refine lv_istore_n C0.1 C0.2.1 dX8_follow_13 rfl hl (by decide) rfl (fun ls hl => ?_)
  refine lv_aload_n C0.1 C0.2.1 dX8_follow_14 rfl (lv_at hl 2 rfl) ?_
  refine lv_lconst (v := 0) C0.1 C0.2.1 dX8_follow_15 (by decide) ?_
  refine p8_35 C0 hO hS i1 tb_1363 dX8_follow_16 (fun H locs hO hS => ?_)
  have h := h _ rfl
  refine lv_aload_n C0.1 C0.2.1 dX8_follow_19 rfl (lv_at hl 2 rfl) ?_
  refine lv_lconst (v := 1) C0.1 C0.2.1 dX8_follow_20 (by decide) ?_
  refine p8_36 C0 hO hS (sA_FJ i1) tb_1364 dX8_follow_21 (fun H locs hO hS => ?_)
  have h := h _ rfl
  refine lv_aload_n C0.1 C0.2.1 dX8_follow_24 rfl (lv_at hl 2 rfl) ?_
  obtain ⟨a10, ea10, h⟩ := h
  refine g8_16 C0 hO (sA_FJ (sA_FJ i1)) ea10 tb_1344 dX8_follow_25 ?_
  refine lv_iload_n C0.1 C0.2.1 dX8_follow_28 rfl (lv_at hl 1 rfl) ?_
  obtain ⟨i11, h⟩ := h
  obtain ⟨e12, h⟩ := h
  refine r_zald C0 hO i11 e12 dX8_follow_29 ?_
  refine lv_if_ne (tgt := 42) C0.1 C0.2.1 dX8_follow_30 (by decide) (fun c13 => ?_) (fun c13 => ?_)
  · have h := h.1 c13
    exact e_V C0 Y hO hS h (Nat.le_refl _) (Nat.le_refl _) dX8_follow_42
  · have h := h.2 c13
    refine lv_aload_n C0.1 C0.2.1 dX8_follow_33 rfl (lv_at hl 2 rfl) ?_
    obtain ⟨a14, ea14, h⟩ := h
    refine g8_15 C0 hO (sA_FJ (sA_FJ i1)) ea14 tb_1343 dX8_follow_34 ?_
    refine lv_iload_n C0.1 C0.2.1 dX8_follow_37 rfl (lv_at hl 1 rfl) ?_
    obtain ⟨i15, h⟩ := h
    obtain ⟨e16, h⟩ := h
    refine r_zald C0 hO i15 e16 dX8_follow_38 ?_
    refine lv_if_eq (tgt := 43) C0.1 C0.2.1 dX8_follow_39 (by decide) (fun c17 => ?_) (fun c17 => ?_)
    · have h := h.1 c17
      refine lv_aload_n C0.1 C0.2.1 dX8_follow_43 rfl (lv_at hl 2 rfl) ?_
      obtain ⟨a18, ea18, h⟩ := h
      refine g8_13 C0 hO (sA_FJ (sA_FJ i1)) ea18 tb_1341 dX8_follow_44 ?_
      refine lv_iload_n C0.1 C0.2.1 dX8_follow_47 rfl (lv_at hl 1 rfl) ?_
      obtain ⟨i19, h⟩ := h
      obtain ⟨e20, h⟩ := h
      refine r_iald C0 hO i19 e20 dX8_follow_48 ?_
      refine lv_i2l C0.1 C0.2.1 dX8_follow_49 rfl ?_
      refine lv_lstore C0.1 C0.2.1 dX8_follow_50 hl (by decide) rfl (fun ls hl => ?_)
      refine lv_aload_n C0.1 C0.2.1 dX8_follow_52 rfl (lv_at hl 3 rfl) ?_
      obtain ⟨a21, ea21, h⟩ := h
      refine g8_14 C0 hO (sA_FJ (sA_FJ i1)) ea21 tb_1342 dX8_follow_53 ?_
      refine lv_iload_n C0.1 C0.2.1 dX8_follow_56 rfl (lv_at hl 2 rfl) ?_
      obtain ⟨i22, h⟩ := h
      obtain ⟨e23, h⟩ := h
      refine r_iald C0 hO i22 e23 dX8_follow_57 ?_
      refine lv_i2l C0.1 C0.2.1 dX8_follow_58 rfl ?_
      refine lv_lstore C0.1 C0.2.1 dX8_follow_59 hl (by decide) rfl (fun ls hl => ?_)
      refine lv_aload_n C0.1 C0.2.1 dX8_follow_61 rfl (lv_at hl 4 rfl) ?_
      obtain ⟨a24, ea24, h⟩ := h
      refine g8_9 C0 hO (sA_FJ (sA_FJ i1)) ea24 tb_1337 dX8_follow_62 ?_
      refine lv_iload_n C0.1 C0.2.1 dX8_follow_65 rfl (lv_at hl 3 rfl) ?_
      obtain ⟨i25, h⟩ := h
      obtain ⟨e26, h⟩ := h
      refine r_cald C0 hO i25 e26 dX8_follow_66 ?_
      refine lv_topi (fun y9 e9 => ?_)
      by_cases c27 : y9 = 103
      · have h := h.1 (e9.symm.trans c27)
        refine lv_lookup (tgt := 116) C0.1 C0.2.1 dX8_follow_67 (by decide) (off := 49) (by rw [c27]; rfl) (by decide) ?_
        refine lv_aload_n C0.1 C0.2.1 dX8_follow_116 rfl (lv_at hl 4 rfl) ?_
        refine lv_aload_n C0.1 C0.2.1 dX8_follow_117 rfl (lv_at hl 4 rfl) ?_
        obtain ⟨a28, ea28, h⟩ := h
        refine g8_2 C0 hO (sA_FJ (sA_FJ i1)) ea28 tb_1330 dX8_follow_118 ?_
        refine lv_iload_n C0.1 C0.2.1 dX8_follow_121 rfl (lv_at hl 2 rfl) ?_
        obtain ⟨i29, h⟩ := h
        obtain ⟨e30, h⟩ := h
        refine r_lald C0 hO i29 e30 dX8_follow_122 ?_
        refine lv_lneg C0.1 C0.2.1 dX8_follow_123 ?_
        refine lv_aload_n C0.1 C0.2.1 dX8_follow_124 rfl (lv_at hl 4 rfl) ?_
        obtain ⟨a31, ea31, h⟩ := h
        refine g8_3 C0 hO (sA_FJ (sA_FJ i1)) ea31 tb_1331 dX8_follow_125 ?_
        refine lv_iload_n C0.1 C0.2.1 dX8_follow_128 rfl (lv_at hl 2 rfl) ?_
        obtain ⟨i32, h⟩ := h
        obtain ⟨e33, h⟩ := h
        refine r_lald C0 hO i32 e33 dX8_follow_129 ?_
        refine lv_lload C0.1 C0.2.1 dX8_follow_130 (lv_at hl 1 rfl) ?_
        refine lv_lload C0.1 C0.2.1 dX8_follow_132 (lv_at hl 0 rfl) ?_
        refine c_V C0 hO hS (mX8_product h) (sA_FJ (sA_FJ i1)) (by decide) rfl rfl tb_1544 tb_1546 tb_50 tb_81 tb_1547 hd_X8_product rfl ⟨⟨by decide, by decide⟩, by decide, by decide⟩ hl.1 rfl (Nat.le_of_ble_eq_true rfl) dX8_follow_134 (kV (fun S34 H locs h hO hS => ?_))
        refine lv_goto (tgt := 414) C0.1 C0.2.1 dX8_follow_137 (by decide) ?_
        exact e_V C0 Y hO hS h (Nat.le_refl _) (Nat.le_refl _) dX8_follow_414
      · have h := h.2 (fun q9 => c27 (e9.trans q9))
        by_cases c35 : y9 = 105
        · have h := h.1 (e9.symm.trans c35)
          refine lv_lookup (tgt := 140) C0.1 C0.2.1 dX8_follow_67 (by decide) (off := 73) (by rw [c35]; rfl) (by decide) ?_
          refine lv_aload_n C0.1 C0.2.1 dX8_follow_140 rfl (lv_at hl 4 rfl) ?_
          refine lv_aload_n C0.1 C0.2.1 dX8_follow_141 rfl (lv_at hl 4 rfl) ?_
          obtain ⟨a36, ea36, h⟩ := h
          refine g8_2 C0 hO (sA_FJ (sA_FJ i1)) ea36 tb_1330 dX8_follow_142 ?_
          refine lv_iload_n C0.1 C0.2.1 dX8_follow_145 rfl (lv_at hl 2 rfl) ?_
          obtain ⟨i37, h⟩ := h
          obtain ⟨e38, h⟩ := h
          refine r_lald C0 hO i37 e38 dX8_follow_146 ?_
          refine lv_aload_n C0.1 C0.2.1 dX8_follow_147 rfl (lv_at hl 4 rfl) ?_
          obtain ⟨a39, ea39, h⟩ := h
          refine g8_3 C0 hO (sA_FJ (sA_FJ i1)) ea39 tb_1331 dX8_follow_148 ?_
          refine lv_iload_n C0.1 C0.2.1 dX8_follow_151 rfl (lv_at hl 2 rfl) ?_
          obtain ⟨i40, h⟩ := h
          obtain ⟨e41, h⟩ := h
          refine r_lald C0 hO i40 e41 dX8_follow_152 ?_
          refine lv_lload C0.1 C0.2.1 dX8_follow_153 (lv_at hl 1 rfl) ?_
          refine lv_lload C0.1 C0.2.1 dX8_follow_155 (lv_at hl 0 rfl) ?_
          refine c_V C0 hO hS (mX8_product h) (sA_FJ (sA_FJ i1)) (by decide) rfl rfl tb_1544 tb_1546 tb_50 tb_81 tb_1547 hd_X8_product rfl ⟨⟨by decide, by decide⟩, by decide, by decide⟩ hl.1 rfl (Nat.le_of_ble_eq_true rfl) dX8_follow_157 (kV (fun S42 H locs h hO hS => ?_))
          refine lv_goto (tgt := 414) C0.1 C0.2.1 dX8_follow_160 (by decide) ?_
          exact e_V C0 Y hO hS h (Nat.le_refl _) (Nat.le_refl _) dX8_follow_414
        · have h := h.2 (fun q9 => c35 (e9.trans q9))
          by_cases c43 : y9 = 107
          · have h := h.1 (e9.symm.trans c43)
            refine lv_lookup (tgt := 163) C0.1 C0.2.1 dX8_follow_67 (by decide) (off := 96) (by rw [c43]; rfl) (by decide) ?_
            refine lv_aload_n C0.1 C0.2.1 dX8_follow_163 rfl (lv_at hl 4 rfl) ?_
            refine lv_aload_n C0.1 C0.2.1 dX8_follow_164 rfl (lv_at hl 4 rfl) ?_
            obtain ⟨a44, ea44, h⟩ := h
            refine g8_2 C0 hO (sA_FJ (sA_FJ i1)) ea44 tb_1330 dX8_follow_165 ?_
            refine lv_iload_n C0.1 C0.2.1 dX8_follow_168 rfl (lv_at hl 2 rfl) ?_
            obtain ⟨i45, h⟩ := h
            obtain ⟨e46, h⟩ := h
            refine r_lald C0 hO i45 e46 dX8_follow_169 ?_
            refine lv_aload_n C0.1 C0.2.1 dX8_follow_170 rfl (lv_at hl 4 rfl) ?_
            obtain ⟨a47, ea47, h⟩ := h
            refine g8_3 C0 hO (sA_FJ (sA_FJ i1)) ea47 tb_1331 dX8_follow_171 ?_
            refine lv_iload_n C0.1 C0.2.1 dX8_follow_174 rfl (lv_at hl 2 rfl) ?_
            obtain ⟨i48, h⟩ := h
            obtain ⟨e49, h⟩ := h
            refine r_lald C0 hO i48 e49 dX8_follow_175 ?_
            refine c_V C0 hO hS (mX8_result h) (sA_FJ (sA_FJ i1)) (by decide) rfl rfl tb_1532 tb_1534 tb_48 tb_81 tb_1535 hd_X8_result rfl ⟨⟨by decide, by decide⟩, by decide, by decide⟩ hl.1 rfl (Nat.le_of_ble_eq_true rfl) dX8_follow_176 (kV (fun S50 H locs h hO hS => ?_))
            refine lv_goto (tgt := 414) C0.1 C0.2.1 dX8_follow_179 (by decide) ?_
            exact e_V C0 Y hO hS h (Nat.le_refl _) (Nat.le_refl _) dX8_follow_414
          · have h := h.2 (fun q9 => c43 (e9.trans q9))
            by_cases c51 : y9 = 114
            · have h := h.1 (e9.symm.trans c51)
              refine lv_lookup (tgt := 248) C0.1 C0.2.1 dX8_follow_67 (by decide) (off := 181) (by rw [c51]; rfl) (by decide) ?_
              refine lv_aload_n C0.1 C0.2.1 dX8_follow_248 rfl (lv_at hl 4 rfl) ?_
              refine lv_aload_n C0.1 C0.2.1 dX8_follow_249 rfl (lv_at hl 4 rfl) ?_
              obtain ⟨a52, ea52, h⟩ := h
              refine g8_0 C0 hO (sA_FJ (sA_FJ i1)) ea52 tb_1328 dX8_follow_250 ?_
              refine lv_iload_n C0.1 C0.2.1 dX8_follow_253 rfl (lv_at hl 2 rfl) ?_
              obtain ⟨i53, h⟩ := h
              obtain ⟨e54, h⟩ := h
              refine r_lald C0 hO i53 e54 dX8_follow_254 ?_
              refine lv_aload_n C0.1 C0.2.1 dX8_follow_255 rfl (lv_at hl 4 rfl) ?_
              obtain ⟨a55, ea55, h⟩ := h
              refine g8_1 C0 hO (sA_FJ (sA_FJ i1)) ea55 tb_1329 dX8_follow_256 ?_
              refine lv_iload_n C0.1 C0.2.1 dX8_follow_259 rfl (lv_at hl 2 rfl) ?_
              obtain ⟨i56, h⟩ := h
              obtain ⟨e57, h⟩ := h
              refine r_lald C0 hO i56 e57 dX8_follow_260 ?_
              refine lv_aload_n C0.1 C0.2.1 dX8_follow_261 rfl (lv_at hl 4 rfl) ?_
              obtain ⟨a58, ea58, h⟩ := h
              refine g8_2 C0 hO (sA_FJ (sA_FJ i1)) ea58 tb_1330 dX8_follow_262 ?_
              refine lv_iload_n C0.1 C0.2.1 dX8_follow_265 rfl (lv_at hl 2 rfl) ?_
              obtain ⟨i59, h⟩ := h
              obtain ⟨e60, h⟩ := h
              refine r_lald C0 hO i59 e60 dX8_follow_266 ?_
              refine lv_aload_n C0.1 C0.2.1 dX8_follow_267 rfl (lv_at hl 4 rfl) ?_
              obtain ⟨a61, ea61, h⟩ := h
              refine g8_3 C0 hO (sA_FJ (sA_FJ i1)) ea61 tb_1331 dX8_follow_268 ?_
              refine lv_iload_n C0.1 C0.2.1 dX8_follow_271 rfl (lv_at hl 2 rfl) ?_
              obtain ⟨i62, h⟩ := h
              obtain ⟨e63, h⟩ := h
              refine r_lald C0 hO i62 e63 dX8_follow_272 ?_
              refine c_V C0 hO hS (mX8_sum h) (sA_FJ (sA_FJ i1)) (by decide) rfl rfl tb_1548 tb_1550 tb_51 tb_81 tb_1551 hd_X8_sum rfl ⟨⟨by decide, by decide⟩, by decide, by decide⟩ hl.1 rfl (Nat.le_of_ble_eq_true rfl) dX8_follow_273 (kV (fun S64 H locs h hO hS => ?_))
              refine lv_lload C0.1 C0.2.1 dX8_follow_276 (lv_at hl 1 rfl) ?_
              refine lv_aload_n C0.1 C0.2.1 dX8_follow_278 rfl (lv_at hl 4 rfl) ?_
              obtain ⟨i65, h⟩ := h
              refine g8_35 C0 hO i65 tb_1363 dX8_follow_279 ?_
              refine lv_aload_n C0.1 C0.2.1 dX8_follow_282 rfl (lv_at hl 4 rfl) ?_
              refine g8_36 C0 hO i65 tb_1364 dX8_follow_283 ?_
              refine c_S C0 hO hS (mX8_floor h) tb_1494 tb_1495 tb_81 tb_1496 hd_X8_floor rfl ⟨⟨by decide, by decide⟩, by decide, by decide⟩ hl.1 rfl (Nat.le_of_ble_eq_true rfl) dX8_follow_286 (kJ (fun r67 S66 H locs h hO hS => ?_))
              refine lv_lstore C0.1 C0.2.1 dX8_follow_289 hl (by decide) rfl (fun ls hl => ?_)
              refine lv_aload_n C0.1 C0.2.1 dX8_follow_291 rfl (lv_at hl 5 rfl) ?_
              refine lv_lconst (v := 0) C0.1 C0.2.1 dX8_follow_292 (by decide) ?_
              refine lv_lload C0.1 C0.2.1 dX8_follow_293 (lv_at hl 0 rfl) ?_
              refine lv_aload_n C0.1 C0.2.1 dX8_follow_295 rfl (lv_at hl 5 rfl) ?_
              obtain ⟨i68, h⟩ := h
              obtain ⟨a69, ea69, h⟩ := h
              refine g8_21 C0 hO i68 ea69 tb_1349 dX8_follow_296 ?_
              refine lv_iload_n C0.1 C0.2.1 dX8_follow_299 rfl (lv_at hl 4 rfl) ?_
              obtain ⟨i70, h⟩ := h
              obtain ⟨e71, h⟩ := h
              refine r_lald C0 hO i70 e71 dX8_follow_300 ?_
              refine lv_lsub C0.1 C0.2.1 dX8_follow_301 ?_
              refine va_mmax_long C0.1 C0.2.1 (C0.2.2.1.trans hl.1.symm) C0.2.2.2.1 (C0.2.2.2.2.1 _ tb_1552) (C0.2.2.2.2.1 _ tb_833) (C0.2.2.2.2.1 _ tb_94) (C0.2.2.2.2.1 _ tb_834) (Nat.le_of_ble_eq_true rfl) (Nat.le_of_ble_eq_true rfl) (by decide) (by decide) dX8_follow_302 ?_
              refine lv_lload C0.1 C0.2.1 dX8_follow_305 (lv_at hl 2 rfl) ?_
              refine c_V C0 hO hS (mX8_result h) i68 (by decide) rfl rfl tb_1532 tb_1534 tb_48 tb_81 tb_1535 hd_X8_result rfl ⟨⟨by decide, by decide⟩, by decide, by decide⟩ hl.1 rfl (Nat.le_of_ble_eq_true rfl) dX8_follow_307 (kV (fun S72 H locs h hO hS => ?_))
              refine lv_aload_n C0.1 C0.2.1 dX8_follow_310 rfl (lv_at hl 5 rfl) ?_
              obtain ⟨i73, h⟩ := h
              obtain ⟨a74, ea74, h⟩ := h
              refine g8_21 C0 hO i73 ea74 tb_1349 dX8_follow_311 ?_
              refine lv_iload_n C0.1 C0.2.1 dX8_follow_314 rfl (lv_at hl 4 rfl) ?_
              refine lv_aload_n C0.1 C0.2.1 dX8_follow_315 rfl (lv_at hl 5 rfl) ?_
              obtain ⟨a75, ea75, h⟩ := h
              refine g8_21 C0 hO i73 ea75 tb_1349 dX8_follow_316 ?_
              refine lv_iload_n C0.1 C0.2.1 dX8_follow_319 rfl (lv_at hl 4 rfl) ?_
              obtain ⟨i76, h⟩ := h
              obtain ⟨e77, h⟩ := h
              refine r_lald C0 hO i76 e77 dX8_follow_320 ?_
              refine lv_lload C0.1 C0.2.1 dX8_follow_321 (lv_at hl 0 rfl) ?_
              refine va_mmax_long C0.1 C0.2.1 (C0.2.2.1.trans hl.1.symm) C0.2.2.2.1 (C0.2.2.2.2.1 _ tb_1552) (C0.2.2.2.2.1 _ tb_833) (C0.2.2.2.2.1 _ tb_94) (C0.2.2.2.2.1 _ tb_834) (Nat.le_of_ble_eq_true rfl) (Nat.le_of_ble_eq_true rfl) (by decide) (by decide) dX8_follow_323 ?_
              obtain ⟨i78, h⟩ := h
              obtain ⟨e79, h⟩ := h
              refine r_last C0 hO hS i78 e79 dX8_follow_326 (fun H locs hO hS => ?_)
              have h := h _ rfl
              refine lv_goto (tgt := 414) C0.1 C0.2.1 dX8_follow_327 (by decide) ?_
              exact e_V C0 Y hO hS h (Nat.le_refl _) (Nat.le_refl _) dX8_follow_414
            · have h := h.2 (fun q9 => c51 (e9.trans q9))
              by_cases c81 : y9 = 118
              · have h := h.1 (e9.symm.trans c81)
                refine lv_lookup (tgt := 182) C0.1 C0.2.1 dX8_follow_67 (by decide) (off := 115) (by rw [c81]; rfl) (by decide) ?_
                refine lv_aload_n C0.1 C0.2.1 dX8_follow_182 rfl (lv_at hl 4 rfl) ?_
                refine lv_aload_n C0.1 C0.2.1 dX8_follow_183 rfl (lv_at hl 4 rfl) ?_
                obtain ⟨a82, ea82, h⟩ := h
                refine g8_0 C0 hO (sA_FJ (sA_FJ i1)) ea82 tb_1328 dX8_follow_184 ?_
                refine lv_iload_n C0.1 C0.2.1 dX8_follow_187 rfl (lv_at hl 2 rfl) ?_
                obtain ⟨i83, h⟩ := h
                obtain ⟨e84, h⟩ := h
                refine r_lald C0 hO i83 e84 dX8_follow_188 ?_
                refine lv_aload_n C0.1 C0.2.1 dX8_follow_189 rfl (lv_at hl 4 rfl) ?_
                obtain ⟨a85, ea85, h⟩ := h
                refine g8_1 C0 hO (sA_FJ (sA_FJ i1)) ea85 tb_1329 dX8_follow_190 ?_
                refine lv_iload_n C0.1 C0.2.1 dX8_follow_193 rfl (lv_at hl 2 rfl) ?_
                obtain ⟨i86, h⟩ := h
                obtain ⟨e87, h⟩ := h
                refine r_lald C0 hO i86 e87 dX8_follow_194 ?_
                refine lv_aload_n C0.1 C0.2.1 dX8_follow_195 rfl (lv_at hl 4 rfl) ?_
                obtain ⟨a88, ea88, h⟩ := h
                refine g8_2 C0 hO (sA_FJ (sA_FJ i1)) ea88 tb_1330 dX8_follow_196 ?_
                refine lv_iload_n C0.1 C0.2.1 dX8_follow_199 rfl (lv_at hl 2 rfl) ?_
                obtain ⟨i89, h⟩ := h
                obtain ⟨e90, h⟩ := h
                refine r_lald C0 hO i89 e90 dX8_follow_200 ?_
                refine lv_aload_n C0.1 C0.2.1 dX8_follow_201 rfl (lv_at hl 4 rfl) ?_
                obtain ⟨a91, ea91, h⟩ := h
                refine g8_3 C0 hO (sA_FJ (sA_FJ i1)) ea91 tb_1331 dX8_follow_202 ?_
                refine lv_iload_n C0.1 C0.2.1 dX8_follow_205 rfl (lv_at hl 2 rfl) ?_
                obtain ⟨i92, h⟩ := h
                obtain ⟨e93, h⟩ := h
                refine r_lald C0 hO i92 e93 dX8_follow_206 ?_
                refine c_V C0 hO hS (mX8_sum h) (sA_FJ (sA_FJ i1)) (by decide) rfl rfl tb_1548 tb_1550 tb_51 tb_81 tb_1551 hd_X8_sum rfl ⟨⟨by decide, by decide⟩, by decide, by decide⟩ hl.1 rfl (Nat.le_of_ble_eq_true rfl) dX8_follow_207 (kV (fun S94 H locs h hO hS => ?_))
                refine lv_aload_n C0.1 C0.2.1 dX8_follow_210 rfl (lv_at hl 4 rfl) ?_
                refine lv_lconst (v := 1) C0.1 C0.2.1 dX8_follow_211 (by decide) ?_
                refine lv_aload_n C0.1 C0.2.1 dX8_follow_212 rfl (lv_at hl 4 rfl) ?_
                obtain ⟨i95, h⟩ := h
                refine g8_35 C0 hO i95 tb_1363 dX8_follow_213 ?_
                refine lv_aload_n C0.1 C0.2.1 dX8_follow_216 rfl (lv_at hl 4 rfl) ?_
                refine g8_36 C0 hO i95 tb_1364 dX8_follow_217 ?_
                refine c_S C0 hO hS (mX8_floor h) tb_1494 tb_1495 tb_81 tb_1496 hd_X8_floor rfl ⟨⟨by decide, by decide⟩, by decide, by decide⟩ hl.1 rfl (Nat.le_of_ble_eq_true rfl) dX8_follow_220 (kJ (fun r97 S96 H locs h hO hS => ?_))
                refine lv_lconst (v := 1) C0.1 C0.2.1 dX8_follow_223 (by decide) ?_
                refine lv_aload_n C0.1 C0.2.1 dX8_follow_224 rfl (lv_at hl 4 rfl) ?_
                obtain ⟨i98, h⟩ := h
                obtain ⟨a99, ea99, h⟩ := h
                refine g8_0 C0 hO i98 ea99 tb_1328 dX8_follow_225 ?_
                refine lv_iload_n C0.1 C0.2.1 dX8_follow_228 rfl (lv_at hl 2 rfl) ?_
                obtain ⟨i100, h⟩ := h
                obtain ⟨e101, h⟩ := h
                refine r_lald C0 hO i100 e101 dX8_follow_229 ?_
                refine lv_aload_n C0.1 C0.2.1 dX8_follow_230 rfl (lv_at hl 4 rfl) ?_
                obtain ⟨a102, ea102, h⟩ := h
                refine g8_1 C0 hO i98 ea102 tb_1329 dX8_follow_231 ?_
                refine lv_iload_n C0.1 C0.2.1 dX8_follow_234 rfl (lv_at hl 2 rfl) ?_
                obtain ⟨i103, h⟩ := h
                obtain ⟨e104, h⟩ := h
                refine r_lald C0 hO i103 e104 dX8_follow_235 ?_
                refine c_S C0 hO hS (mX8_floor h) tb_1494 tb_1495 tb_81 tb_1496 hd_X8_floor rfl ⟨⟨by decide, by decide⟩, by decide, by decide⟩ hl.1 rfl (Nat.le_of_ble_eq_true rfl) dX8_follow_236 (kJ (fun r106 S105 H locs h hO hS => ?_))
                refine lv_lsub C0.1 C0.2.1 dX8_follow_239 ?_
                refine lv_lload C0.1 C0.2.1 dX8_follow_240 (lv_at hl 1 rfl) ?_
                obtain ⟨i108, h⟩ := h
                refine c_V C0 hO hS (mX8_result h) i108 (by decide) rfl rfl tb_1532 tb_1534 tb_48 tb_81 tb_1535 hd_X8_result rfl ⟨⟨by decide, by decide⟩, by decide, by decide⟩ hl.1 rfl (Nat.le_of_ble_eq_true rfl) dX8_follow_242 (kV (fun S107 H locs h hO hS => ?_))
                refine lv_goto (tgt := 414) C0.1 C0.2.1 dX8_follow_245 (by decide) ?_
                exact e_V C0 Y hO hS h (Nat.le_refl _) (Nat.le_refl _) dX8_follow_414
              · have h := h.2 (fun q9 => c81 (e9.trans q9))
                refine lv_lookup (tgt := 330) C0.1 C0.2.1 dX8_follow_67 (by decide) (off := 263) (by rw [lv_osw c27 (by decide)]; rw [lv_osw c35 (by decide)]; rw [lv_osw c43 (by decide)]; rw [lv_osw c51 (by decide)]; rw [lv_osw c81 (by decide)]; rfl) (by decide) ?_
                refine lv_aload_n C0.1 C0.2.1 dX8_follow_330 rfl (lv_at hl 4 rfl) ?_
                refine lv_aload_n C0.1 C0.2.1 dX8_follow_331 rfl (lv_at hl 4 rfl) ?_
                obtain ⟨a109, ea109, h⟩ := h
                refine g8_2 C0 hO (sA_FJ (sA_FJ i1)) ea109 tb_1330 dX8_follow_332 ?_
                refine lv_iload_n C0.1 C0.2.1 dX8_follow_335 rfl (lv_at hl 2 rfl) ?_
                obtain ⟨i110, h⟩ := h
                obtain ⟨e111, h⟩ := h
                refine r_lald C0 hO i110 e111 dX8_follow_336 ?_
                refine lv_aload_n C0.1 C0.2.1 dX8_follow_337 rfl (lv_at hl 4 rfl) ?_
                obtain ⟨a112, ea112, h⟩ := h
                refine g8_3 C0 hO (sA_FJ (sA_FJ i1)) ea112 tb_1331 dX8_follow_338 ?_
                refine lv_iload_n C0.1 C0.2.1 dX8_follow_341 rfl (lv_at hl 2 rfl) ?_
                obtain ⟨i113, h⟩ := h
                obtain ⟨e114, h⟩ := h
                refine r_lald C0 hO i113 e114 dX8_follow_342 ?_
                refine lv_lload C0.1 C0.2.1 dX8_follow_343 (lv_at hl 1 rfl) ?_
                refine lv_lload C0.1 C0.2.1 dX8_follow_345 (lv_at hl 1 rfl) ?_
                refine lv_lload C0.1 C0.2.1 dX8_follow_347 (lv_at hl 0 rfl) ?_
                refine lv_ladd C0.1 C0.2.1 dX8_follow_349 ?_
                refine c_V C0 hO hS (mX8_product h) (sA_FJ (sA_FJ i1)) (by decide) rfl rfl tb_1544 tb_1546 tb_50 tb_81 tb_1547 hd_X8_product rfl ⟨⟨by decide, by decide⟩, by decide, by decide⟩ hl.1 rfl (Nat.le_of_ble_eq_true rfl) dX8_follow_350 (kV (fun S115 H locs h hO hS => ?_))
                refine lv_aload_n C0.1 C0.2.1 dX8_follow_353 rfl (lv_at hl 4 rfl) ?_
                obtain ⟨i116, h⟩ := h
                refine g8_35 C0 hO i116 tb_1363 dX8_follow_354 ?_
                refine lv_lstore C0.1 C0.2.1 dX8_follow_357 hl (by decide) rfl (fun ls hl => ?_)
                refine lv_aload_n C0.1 C0.2.1 dX8_follow_359 rfl (lv_at hl 5 rfl) ?_
                refine g8_36 C0 hO i116 tb_1364 dX8_follow_360 ?_
                refine lv_lstore C0.1 C0.2.1 dX8_follow_363 hl (by decide) rfl (fun ls hl => ?_)
                refine lv_aload_n C0.1 C0.2.1 dX8_follow_365 rfl (lv_at hl 6 rfl) ?_
                refine lv_aload_n C0.1 C0.2.1 dX8_follow_366 rfl (lv_at hl 6 rfl) ?_
                obtain ⟨a117, ea117, h⟩ := h
                refine g8_2 C0 hO i116 ea117 tb_1330 dX8_follow_367 ?_
                refine lv_aload_n C0.1 C0.2.1 dX8_follow_370 rfl (lv_at hl 6 rfl) ?_
                obtain ⟨a118, ea118, h⟩ := h
                refine g8_11 C0 hO i116 ea118 tb_1339 dX8_follow_371 ?_
                refine lv_iload_n C0.1 C0.2.1 dX8_follow_374 rfl (lv_at hl 5 rfl) ?_
                obtain ⟨i119, h⟩ := h
                obtain ⟨e120, h⟩ := h
                refine r_iald C0 hO i119 e120 dX8_follow_375 ?_
                obtain ⟨i121, h⟩ := h
                obtain ⟨e122, h⟩ := h
                refine r_lald C0 hO i121 e122 dX8_follow_376 ?_
                refine lv_aload_n C0.1 C0.2.1 dX8_follow_377 rfl (lv_at hl 6 rfl) ?_
                obtain ⟨a123, ea123, h⟩ := h
                refine g8_3 C0 hO i116 ea123 tb_1331 dX8_follow_378 ?_
                refine lv_aload_n C0.1 C0.2.1 dX8_follow_381 rfl (lv_at hl 6 rfl) ?_
                obtain ⟨a124, ea124, h⟩ := h
                refine g8_11 C0 hO i116 ea124 tb_1339 dX8_follow_382 ?_
                refine lv_iload_n C0.1 C0.2.1 dX8_follow_385 rfl (lv_at hl 5 rfl) ?_
                obtain ⟨i125, h⟩ := h
                obtain ⟨e126, h⟩ := h
                refine r_iald C0 hO i125 e126 dX8_follow_386 ?_
                obtain ⟨i127, h⟩ := h
                obtain ⟨e128, h⟩ := h
                refine r_lald C0 hO i127 e128 dX8_follow_387 ?_
                refine lv_lload C0.1 C0.2.1 dX8_follow_388 (lv_at hl 2 rfl) ?_
                refine lv_lload C0.1 C0.2.1 dX8_follow_390 (lv_at hl 3 rfl) ?_
                refine lv_lload C0.1 C0.2.1 dX8_follow_392 (lv_at hl 2 rfl) ?_
                refine lv_ladd C0.1 C0.2.1 dX8_follow_394 ?_
                refine c_V C0 hO hS (mX8_product h) i116 (by decide) rfl rfl tb_1544 tb_1546 tb_50 tb_81 tb_1547 hd_X8_product rfl ⟨⟨by decide, by decide⟩, by decide, by decide⟩ hl.1 rfl (Nat.le_of_ble_eq_true rfl) dX8_follow_395 (kV (fun S129 H locs h hO hS => ?_))
                refine lv_aload_n C0.1 C0.2.1 dX8_follow_398 rfl (lv_at hl 6 rfl) ?_
                refine lv_lload C0.1 C0.2.1 dX8_follow_399 (lv_at hl 1 rfl) ?_
                refine lv_lload C0.1 C0.2.1 dX8_follow_401 (lv_at hl 0 rfl) ?_
                refine lv_aload_n C0.1 C0.2.1 dX8_follow_403 rfl (lv_at hl 6 rfl) ?_
                obtain ⟨i130, h⟩ := h
                refine g8_35 C0 hO i130 tb_1363 dX8_follow_404 ?_
                refine lv_aload_n C0.1 C0.2.1 dX8_follow_407 rfl (lv_at hl 6 rfl) ?_
                refine g8_36 C0 hO i130 tb_1364 dX8_follow_408 ?_
                refine c_V C0 hO hS (mX8_sum h) i130 (by decide) rfl rfl tb_1548 tb_1550 tb_51 tb_81 tb_1551 hd_X8_sum rfl ⟨⟨by decide, by decide⟩, by decide, by decide⟩ hl.1 rfl (Nat.le_of_ble_eq_true rfl) dX8_follow_411 (kV (fun S131 H locs h hO hS => ?_))
                exact e_V C0 Y hO hS h (Nat.le_refl _) (Nat.le_refl _) dX8_follow_414
    · have h := h.2 c17
      exact e_V C0 Y hO hS h (Nat.le_refl _) (Nat.le_refl _) dX8_follow_42
def wX8_follow (S : Hp) (x0 : Nat) (x1 : Int32) (Φ : Hp → Prop) : Prop := wX8_follow_b0 x0 x1 Φ S
set_option maxRecDepth 100000 in
theorem mX8_follow {l : Launch} {G : Gw} {S : Hp} {x0 : Nat} {x1 : Int32} {Φ : Hp → Prop} (h : wX8_follow S x0 x1 Φ) : gM l yX8_follow cX8_follow 14 none rm_X8_follow [.ref x0, .int x1] G S (PV Φ) := by
  unfold gM
  refine Met.ofW (cc := cX8_follow) (maxL := 14) (ret := none) (by decide) rfl ?_
  intro p e s m args below meth c s₁ B hml hv
  obtain ⟨rfl, hw⟩ := hv
  obtain ⟨C0, Y, hO⟩ := mx_of B hml hw
  have hS : va_S (Ab G.b) s.heap s.heap [] := va_S.rf
  have hl := lv_entry ([.ref x0, .int x1]) (n := 14) (Nat.le_of_ble_eq_true rfl)
  rw [lg_entry_eq]
  generalize (lg_sl ([.ref x0, .int x1]) ++ List.replicate (14 - (lg_sl ([.ref x0, .int x1])).length) Slot.unset).toArray = ls at hl ⊢
  have hl : lv_has ls 14 [(0, .ref x0), (1, .int x1)] := hl
  exact bX8_follow_b0 C0 Y S _ _ _ h hO hS hl

def rm_X8_wears : Room := { frames := 4, cells := 0, slots := 0, locals := 100 }
def wX8_wears_b0 (x0 : Nat) (x1 : Int32) (x2 : Int32) (Φ : Hp → Prop) (S : Hp) : Prop := isA S x0 8 ∧ ∃ a2, S.FR 531 x0 = some a2 ∧ isA S a2 22 ∧ vp_in x1 (S.N a2) ∧ ∃ a5, S.FR 532 x0 = some a5 ∧ isA S a5 22 ∧ vp_in x1 (S.N a5) ∧ ∃ a8, S.FR 514 x0 = some a8 ∧ isA S a8 22 ∧ vp_in x2 (S.N a8) ∧ ∃ a11, S.FR 515 x0 = some a11 ∧ isA S a11 22 ∧ vp_in x2 (S.N a11) ∧ wX8_sum S x0 (S.AJ a2 x1.toNatClampNeg) (S.AJ a5 x1.toNatClampNeg) (if 0 < (S.AJ a8 x2.toNatClampNeg) then (S.AJ a8 x2.toNatClampNeg) else -(S.AJ a8 x2.toNatClampNeg)) (S.AJ a11 x2.toNatClampNeg) (fun S14 => isA S14 x0 8 ∧ ∃ a16, S14.FR 531 x0 = some a16 ∧ isA S14 a16 22 ∧ vp_in x1 (S14.N a16) ∧ ∀ S19, S19 = S14.setAJ a16 x1.toNatClampNeg (S14.FJ 547 x0) → ∃ a20, S19.FR 532 x0 = some a20 ∧ isA S19 a20 22 ∧ vp_in x1 (S19.N a20) ∧ ∀ S23, S23 = S19.setAJ a20 x1.toNatClampNeg (S19.FJ 548 x0) → Φ S23)
set_option maxHeartbeats 4000000 in
set_option maxRecDepth 100000 in
theorem bX8_wears_b0 {p : Program} {l : Launch} {e : Env} {s : State} {m : MethodId} {args : Array Value} {below : List Frame} {meth : Method} {c : Code} {G : Gw} {x0 : Nat} {x1 : Int32} {x2 : Int32} {Φ : Hp → Prop} (C0 : Mx p s m c cX8_wears 3 args yX8_wears.cls G) (Y : My meth none)  : ∀ (S : Hp) (H : Heap) (locs : List Loc) (ls : Array Slot), wX8_wears_b0 x0 x1 x2 Φ S → Ok G S H → va_S (Ab G.b) s.heap H locs → lv_has ls 3 [(0, .ref x0), (1, .int x1), (2, .int x2)] → W p l e rm_X8_wears s m args below meth c H locs 0 0 (MQ below (gQ G (PV Φ)) args s rm_X8_wears.cells rm_X8_wears.slots (Ab G.b)) (F0 m 0 ls []) := by
  intro S H locs ls h hO hS hl
  unfold wX8_wears_b0 at h
  refine lv_aload_n C0.1 C0.2.1 dX8_wears_0 rfl (lv_at hl 0 rfl) ?_
  refine lv_aload_n C0.1 C0.2.1 dX8_wears_1 rfl (lv_at hl 0 rfl) ?_
  obtain ⟨i1, h⟩ := h
  obtain ⟨a2, ea2, h⟩ := h
  refine g8_19 C0 hO i1 ea2 tb_1347 dX8_wears_2 ?_
  refine lv_iload_n C0.1 C0.2.1 dX8_wears_5 rfl (lv_at hl 1 rfl) ?_
  obtain ⟨i3, h⟩ := h
  obtain ⟨e4, h⟩ := h
  refine r_lald C0 hO i3 e4 dX8_wears_6 ?_
  refine lv_aload_n C0.1 C0.2.1 dX8_wears_7 rfl (lv_at hl 0 rfl) ?_
  obtain ⟨a5, ea5, h⟩ := h
  refine g8_20 C0 hO i1 ea5 tb_1348 dX8_wears_8 ?_
  refine lv_iload_n C0.1 C0.2.1 dX8_wears_11 rfl (lv_at hl 1 rfl) ?_
  obtain ⟨i6, h⟩ := h
  obtain ⟨e7, h⟩ := h
  refine r_lald C0 hO i6 e7 dX8_wears_12 ?_
  refine lv_aload_n C0.1 C0.2.1 dX8_wears_13 rfl (lv_at hl 0 rfl) ?_
  obtain ⟨a8, ea8, h⟩ := h
  refine g8_2 C0 hO i1 ea8 tb_1330 dX8_wears_14 ?_
  refine lv_iload_n C0.1 C0.2.1 dX8_wears_17 rfl (lv_at hl 2 rfl) ?_
  obtain ⟨i9, h⟩ := h
  obtain ⟨e10, h⟩ := h
  refine r_lald C0 hO i9 e10 dX8_wears_18 ?_
  refine va_mabs_long C0.1 C0.2.1 (C0.2.2.1.trans hl.1.symm) C0.2.2.2.1 (C0.2.2.2.2.1 _ tb_1539) (C0.2.2.2.2.1 _ tb_817) (C0.2.2.2.2.1 _ tb_94) (C0.2.2.2.2.1 _ tb_818) (Nat.le_of_ble_eq_true rfl) (Nat.le_of_ble_eq_true rfl) (by decide) (by decide) dX8_wears_19 ?_
  refine lv_aload_n C0.1 C0.2.1 dX8_wears_22 rfl (lv_at hl 0 rfl) ?_
  obtain ⟨a11, ea11, h⟩ := h
  refine g8_3 C0 hO i1 ea11 tb_1331 dX8_wears_23 ?_
  refine lv_iload_n C0.1 C0.2.1 dX8_wears_26 rfl (lv_at hl 2 rfl) ?_
  obtain ⟨i12, h⟩ := h
  obtain ⟨e13, h⟩ := h
  refine r_lald C0 hO i12 e13 dX8_wears_27 ?_
  refine c_V C0 hO hS (mX8_sum h) i1 (by decide) rfl rfl tb_1548 tb_1550 tb_51 tb_81 tb_1551 hd_X8_sum rfl ⟨⟨by decide, by decide⟩, by decide, by decide⟩ hl.1 rfl (Nat.le_of_ble_eq_true rfl) dX8_wears_28 (kV (fun S14 H locs h hO hS => ?_))
  refine lv_aload_n C0.1 C0.2.1 dX8_wears_31 rfl (lv_at hl 0 rfl) ?_
  obtain ⟨i15, h⟩ := h
  obtain ⟨a16, ea16, h⟩ := h
  refine g8_19 C0 hO i15 ea16 tb_1347 dX8_wears_32 ?_
  refine lv_iload_n C0.1 C0.2.1 dX8_wears_35 rfl (lv_at hl 1 rfl) ?_
  refine lv_aload_n C0.1 C0.2.1 dX8_wears_36 rfl (lv_at hl 0 rfl) ?_
  refine g8_35 C0 hO i15 tb_1363 dX8_wears_37 ?_
  obtain ⟨i17, h⟩ := h
  obtain ⟨e18, h⟩ := h
  refine r_last C0 hO hS i17 e18 dX8_wears_40 (fun H locs hO hS => ?_)
  have h := h _ rfl
  refine lv_aload_n C0.1 C0.2.1 dX8_wears_41 rfl (lv_at hl 0 rfl) ?_
  obtain ⟨a20, ea20, h⟩ := h
  refine g8_20 C0 hO (sA_AJ i15) ea20 tb_1348 dX8_wears_42 ?_
  refine lv_iload_n C0.1 C0.2.1 dX8_wears_45 rfl (lv_at hl 1 rfl) ?_
  refine lv_aload_n C0.1 C0.2.1 dX8_wears_46 rfl (lv_at hl 0 rfl) ?_
  refine g8_36 C0 hO (sA_AJ i15) tb_1364 dX8_wears_47 ?_
  obtain ⟨i21, h⟩ := h
  obtain ⟨e22, h⟩ := h
  refine r_last C0 hO hS i21 e22 dX8_wears_50 (fun H locs hO hS => ?_)
  have h := h _ rfl
  exact e_V C0 Y hO hS h (Nat.le_refl _) (Nat.le_refl _) dX8_wears_51
def wX8_wears (S : Hp) (x0 : Nat) (x1 : Int32) (x2 : Int32) (Φ : Hp → Prop) : Prop := wX8_wears_b0 x0 x1 x2 Φ S
set_option maxRecDepth 100000 in
theorem mX8_wears {l : Launch} {G : Gw} {S : Hp} {x0 : Nat} {x1 : Int32} {x2 : Int32} {Φ : Hp → Prop} (h : wX8_wears S x0 x1 x2 Φ) : gM l yX8_wears cX8_wears 3 none rm_X8_wears [.ref x0, .int x1, .int x2] G S (PV Φ) := by
  unfold gM
  refine Met.ofW (cc := cX8_wears) (maxL := 3) (ret := none) (by decide) rfl ?_
  intro p e s m args below meth c s₁ B hml hv
  obtain ⟨rfl, hw⟩ := hv
  obtain ⟨C0, Y, hO⟩ := mx_of B hml hw
  have hS : va_S (Ab G.b) s.heap s.heap [] := va_S.rf
  have hl := lv_entry ([.ref x0, .int x1, .int x2]) (n := 3) (Nat.le_of_ble_eq_true rfl)
  rw [lg_entry_eq]
  generalize (lg_sl ([.ref x0, .int x1, .int x2]) ++ List.replicate (3 - (lg_sl ([.ref x0, .int x1, .int x2])).length) Slot.unset).toArray = ls at hl ⊢
  have hl : lv_has ls 3 [(0, .ref x0), (1, .int x1), (2, .int x2)] := hl
  exact bX8_wears_b0 C0 Y S _ _ _ h hO hS hl

def rm_X8_strikes : Room := { frames := 4, cells := 0, slots := 0, locals := 100 }
def wX8_strikes_b151 (x0 : Nat) (x1 : Int32) (Φ : Hp → Prop) (k92 : Hp → Int64 → Int64 → Prop) (k114 : Hp → Int64 → Int64 → Int32 → Int32 → Prop) (S : Hp) (v9 : Int64) (v11 : Int64) (v13 : Int32) (v14 : Int32) (z0 : Nat) (z1 : Int32) (z2 : Int32) (z3 : Int32) : Prop := isA S z0 21 ∧ vp_in z1 (S.N z0) ∧ ∀ S3, S3 = S.setAI z0 z1.toNatClampNeg (z2 + z3) → k114 S3 v9 v11 v13 (v14 + 1)
set_option maxHeartbeats 4000000 in
set_option maxRecDepth 100000 in
theorem bX8_strikes_b151 {p : Program} {l : Launch} {e : Env} {s : State} {m : MethodId} {args : Array Value} {below : List Frame} {meth : Method} {c : Code} {G : Gw} {x0 : Nat} {x1 : Int32} {Φ : Hp → Prop} (C0 : Mx p s m c cX8_strikes 15 args yX8_strikes.cls G) (Y : My meth none) {k92 : Hp → Int64 → Int64 → Prop} (hk92 : ∀ (S : Hp) (v9 : Int64) (v11 : Int64) (H : Heap) (locs : List Loc) (ls : Array Slot), k92 S v9 v11 → Ok G S H → va_S (Ab G.b) s.heap H locs → lv_has ls 15 [(0, .ref x0), (1, .int x1), (9, .long v9), (11, .long v11)] → W p l e rm_X8_strikes s m args below meth c H locs 0 0 (MQ below (gQ G (PV Φ)) args s rm_X8_strikes.cells rm_X8_strikes.slots (Ab G.b)) (F0 m 92 ls [])) {k114 : Hp → Int64 → Int64 → Int32 → Int32 → Prop} (hk114 : ∀ (S : Hp) (v9 : Int64) (v11 : Int64) (v13 : Int32) (v14 : Int32) (H : Heap) (locs : List Loc) (ls : Array Slot), k114 S v9 v11 v13 v14 → Ok G S H → va_S (Ab G.b) s.heap H locs → lv_has ls 15 [(0, .ref x0), (1, .int x1), (9, .long v9), (11, .long v11), (13, .int v13), (14, .int v14)] → W p l e rm_X8_strikes s m args below meth c H locs 0 0 (MQ below (gQ G (PV Φ)) args s rm_X8_strikes.cells rm_X8_strikes.slots (Ab G.b)) (F0 m 114 ls [])) : ∀ (S : Hp) (v9 : Int64) (v11 : Int64) (v13 : Int32) (v14 : Int32) (z0 : Nat) (z1 : Int32) (z2 : Int32) (z3 : Int32) (H : Heap) (locs : List Loc) (ls : Array Slot), wX8_strikes_b151 x0 x1 Φ k92 k114 S v9 v11 v13 v14 z0 z1 z2 z3 → Ok G S H → va_S (Ab G.b) s.heap H locs → lv_has ls 15 [(0, .ref x0), (1, .int x1), (9, .long v9), (11, .long v11), (13, .int v13), (14, .int v14)] → W p l e rm_X8_strikes s m args below meth c H locs 0 0 (MQ below (gQ G (PV Φ)) args s rm_X8_strikes.cells rm_X8_strikes.slots (Ab G.b)) (F0 m 151 ls [.int z3, .int z2, .int z1, .ref z0]) := by
  intro S v9 v11 v13 v14 z0 z1 z2 z3 H locs ls h hO hS hl
  unfold wX8_strikes_b151 at h
  refine lv_iadd C0.1 C0.2.1 dX8_strikes_151 ?_
  obtain ⟨i1, h⟩ := h
  obtain ⟨e2, h⟩ := h
  refine r_iast C0 hO hS i1 e2 dX8_strikes_152 (fun H locs hO hS => ?_)
  have h := h _ rfl
  refine lv_iinc (v := _ + 1) C0.1 C0.2.1 dX8_strikes_153 hl (k := 5) rfl rfl (by decide) rfl (fun ls hl => ?_)
  refine lv_goto (tgt := 114) C0.1 C0.2.1 dX8_strikes_156 (by decide) ?_
  exact hk114 _ _ _ _ _ _ _ _ h hO hS (lv_sub hl [1, 2, 3, 4, 5, 0] rfl)
def wX8_strikes_b114 (x0 : Nat) (x1 : Int32) (Φ : Hp → Prop) (k92 : Hp → Int64 → Int64 → Prop) (k114 : Hp → Int64 → Int64 → Int32 → Int32 → Prop) (S : Hp) (v9 : Int64) (v11 : Int64) (v13 : Int32) (v14 : Int32) : Prop := ((8 ≤ v14 → k92 S v9 (v11 + 1)) ∧ (¬ (8 ≤ v14) → isA S x0 8 ∧ ∃ a3, S.FR 542 x0 = some a3 ∧ isA S a3 26 ∧ vp_in x1 (S.N a3) ∧ ∃ a6, S.AR a3 x1.toNatClampNeg = some a6 ∧ isA S a6 21 ∧ vp_in v14 (S.N a6) ∧ ∃ a9, S.FR 541 x0 = some a9 ∧ isA S a9 29 ∧ vp_in x1 (S.N a9) ∧ ∃ a12, S.AR a9 x1.toNatClampNeg = some a12 ∧ isA S a12 28 ∧ vp_in v13 (S.N a12) ∧ ∃ a15, S.AR a12 v13.toNatClampNeg = some a15 ∧ isA S a15 23 ∧ vp_in v14 (S.N a15) ∧ (((S.AI a15 v14.toNatClampNeg) = 0 → wX8_strikes_b151 x0 x1 Φ k92 k114 S v9 v11 v13 v14 a6 v14 (S.AI a6 v14.toNatClampNeg) 0) ∧ (¬ ((S.AI a15 v14.toNatClampNeg) = 0) → wX8_strikes_b151 x0 x1 Φ k92 k114 S v9 v11 v13 v14 a6 v14 (S.AI a6 v14.toNatClampNeg) 1))))
set_option maxHeartbeats 4000000 in
set_option maxRecDepth 100000 in
theorem bX8_strikes_b114 {p : Program} {l : Launch} {e : Env} {s : State} {m : MethodId} {args : Array Value} {below : List Frame} {meth : Method} {c : Code} {G : Gw} {x0 : Nat} {x1 : Int32} {Φ : Hp → Prop} (C0 : Mx p s m c cX8_strikes 15 args yX8_strikes.cls G) (Y : My meth none) {k92 : Hp → Int64 → Int64 → Prop} (hk92 : ∀ (S : Hp) (v9 : Int64) (v11 : Int64) (H : Heap) (locs : List Loc) (ls : Array Slot), k92 S v9 v11 → Ok G S H → va_S (Ab G.b) s.heap H locs → lv_has ls 15 [(0, .ref x0), (1, .int x1), (9, .long v9), (11, .long v11)] → W p l e rm_X8_strikes s m args below meth c H locs 0 0 (MQ below (gQ G (PV Φ)) args s rm_X8_strikes.cells rm_X8_strikes.slots (Ab G.b)) (F0 m 92 ls [])) {k114 : Hp → Int64 → Int64 → Int32 → Int32 → Prop} (hk114 : ∀ (S : Hp) (v9 : Int64) (v11 : Int64) (v13 : Int32) (v14 : Int32) (H : Heap) (locs : List Loc) (ls : Array Slot), k114 S v9 v11 v13 v14 → Ok G S H → va_S (Ab G.b) s.heap H locs → lv_has ls 15 [(0, .ref x0), (1, .int x1), (9, .long v9), (11, .long v11), (13, .int v13), (14, .int v14)] → W p l e rm_X8_strikes s m args below meth c H locs 0 0 (MQ below (gQ G (PV Φ)) args s rm_X8_strikes.cells rm_X8_strikes.slots (Ab G.b)) (F0 m 114 ls [])) : ∀ (S : Hp) (v9 : Int64) (v11 : Int64) (v13 : Int32) (v14 : Int32) (H : Heap) (locs : List Loc) (ls : Array Slot), wX8_strikes_b114 x0 x1 Φ k92 k114 S v9 v11 v13 v14 → Ok G S H → va_S (Ab G.b) s.heap H locs → lv_has ls 15 [(0, .ref x0), (1, .int x1), (9, .long v9), (11, .long v11), (13, .int v13), (14, .int v14)] → W p l e rm_X8_strikes s m args below meth c H locs 0 0 (MQ below (gQ G (PV Φ)) args s rm_X8_strikes.cells rm_X8_strikes.slots (Ab G.b)) (F0 m 114 ls []) := by
  intro S v9 v11 v13 v14 H locs ls h hO hS hl
  unfold wX8_strikes_b114 at h
  refine lv_iload C0.1 C0.2.1 dX8_strikes_114 (lv_at hl 5 rfl) ?_
  refine lv_bipush (v := 8) C0.1 C0.2.1 dX8_strikes_116 (by decide) ?_
  refine lv_icmp_ge (tgt := 159) C0.1 C0.2.1 dX8_strikes_118 (by decide) (fun c1 => ?_) (fun c1 => ?_)
  · have h := h.1 c1
    refine lv_lload C0.1 C0.2.1 dX8_strikes_159 (lv_at hl 3 rfl) ?_
    refine lv_lconst (v := 1) C0.1 C0.2.1 dX8_strikes_161 (by decide) ?_
    refine lv_ladd C0.1 C0.2.1 dX8_strikes_162 ?_
    refine lv_lstore C0.1 C0.2.1 dX8_strikes_163 hl (by decide) rfl (fun ls hl => ?_)
    refine lv_goto (tgt := 92) C0.1 C0.2.1 dX8_strikes_165 (by decide) ?_
    exact hk92 _ _ _ _ _ _ h hO hS (lv_sub hl [1, 2, 3, 0] rfl)
  · have h := h.2 c1
    refine lv_aload_n C0.1 C0.2.1 dX8_strikes_121 rfl (lv_at hl 0 rfl) ?_
    obtain ⟨i2, h⟩ := h
    obtain ⟨a3, ea3, h⟩ := h
    refine g8_30 C0 hO i2 ea3 tb_1358 dX8_strikes_122 ?_
    refine lv_iload_n C0.1 C0.2.1 dX8_strikes_125 rfl (lv_at hl 1 rfl) ?_
    obtain ⟨i4, h⟩ := h
    obtain ⟨e5, a6, ea6, h⟩ := h
    refine r_oald26 C0 hO i4 e5 dX8_strikes_126 ?_
    rw [ea6]
    change W _ _ _ _ _ _ _ _ _ _ _ _ _ _ _ (F0 _ _ _ (.ref a6 :: _))
    refine lv_iload C0.1 C0.2.1 dX8_strikes_127 (lv_at hl 5 rfl) ?_
    refine lv_dup2_11 C0.1 C0.2.1 dX8_strikes_129 rfl rfl ?_
    obtain ⟨i7, h⟩ := h
    obtain ⟨e8, h⟩ := h
    refine r_iald C0 hO i7 e8 dX8_strikes_130 ?_
    refine lv_aload_n C0.1 C0.2.1 dX8_strikes_131 rfl (lv_at hl 0 rfl) ?_
    obtain ⟨a9, ea9, h⟩ := h
    refine g8_29 C0 hO i2 ea9 tb_1357 dX8_strikes_132 ?_
    refine lv_iload_n C0.1 C0.2.1 dX8_strikes_135 rfl (lv_at hl 1 rfl) ?_
    obtain ⟨i10, h⟩ := h
    obtain ⟨e11, a12, ea12, h⟩ := h
    refine r_oald29 C0 hO i10 e11 dX8_strikes_136 ?_
    rw [ea12]
    change W _ _ _ _ _ _ _ _ _ _ _ _ _ _ _ (F0 _ _ _ (.ref a12 :: _))
    refine lv_iload C0.1 C0.2.1 dX8_strikes_137 (lv_at hl 4 rfl) ?_
    obtain ⟨i13, h⟩ := h
    obtain ⟨e14, a15, ea15, h⟩ := h
    refine r_oald28 C0 hO i13 e14 dX8_strikes_139 ?_
    rw [ea15]
    change W _ _ _ _ _ _ _ _ _ _ _ _ _ _ _ (F0 _ _ _ (.ref a15 :: _))
    refine lv_iload C0.1 C0.2.1 dX8_strikes_140 (lv_at hl 5 rfl) ?_
    obtain ⟨i16, h⟩ := h
    obtain ⟨e17, h⟩ := h
    refine r_zald C0 hO i16 e17 dX8_strikes_142 ?_
    refine lv_if_eq (tgt := 150) C0.1 C0.2.1 dX8_strikes_143 (by decide) (fun c18 => ?_) (fun c18 => ?_)
    · have h := h.1 c18
      refine lv_iconst (v := 0) C0.1 C0.2.1 dX8_strikes_150 (by decide) ?_
      exact bX8_strikes_b151 C0 Y hk92 hk114 _ _ _ _ _ _ _ _ _ _ _ _ h hO hS (lv_sub hl [0, 1, 2, 3, 4, 5] rfl)
    · have h := h.2 c18
      refine lv_iconst (v := 1) C0.1 C0.2.1 dX8_strikes_146 (by decide) ?_
      refine lv_goto (tgt := 151) C0.1 C0.2.1 dX8_strikes_147 (by decide) ?_
      exact bX8_strikes_b151 C0 Y hk92 hk114 _ _ _ _ _ _ _ _ _ _ _ _ h hO hS (lv_sub hl [0, 1, 2, 3, 4, 5] rfl)
set_option maxHeartbeats 4000000 in
set_option maxRecDepth 100000 in
theorem lX8_strikes_b114 {p : Program} {l : Launch} {e : Env} {s : State} {m : MethodId} {args : Array Value} {below : List Frame} {meth : Method} {c : Code} {G : Gw} {x0 : Nat} {x1 : Int32} {Φ : Hp → Prop} (C0 : Mx p s m c cX8_strikes 15 args yX8_strikes.cls G) (Y : My meth none) {k92 : Hp → Int64 → Int64 → Prop} (hk92 : ∀ (S : Hp) (v9 : Int64) (v11 : Int64) (H : Heap) (locs : List Loc) (ls : Array Slot), k92 S v9 v11 → Ok G S H → va_S (Ab G.b) s.heap H locs → lv_has ls 15 [(0, .ref x0), (1, .int x1), (9, .long v9), (11, .long v11)] → W p l e rm_X8_strikes s m args below meth c H locs 0 0 (MQ below (gQ G (PV Φ)) args s rm_X8_strikes.cells rm_X8_strikes.slots (Ab G.b)) (F0 m 92 ls [])) : ∀ n9 : Nat, ∀ (S : Hp) (v9 : Int64) (v11 : Int64) (v13 : Int32) (v14 : Int32) (H : Heap) (locs : List Loc) (ls : Array Slot), it5 (wX8_strikes_b114 x0 x1 Φ k92) n9 S v9 v11 v13 v14 → Ok G S H → va_S (Ab G.b) s.heap H locs → lv_has ls 15 [(0, .ref x0), (1, .int x1), (9, .long v9), (11, .long v11), (13, .int v13), (14, .int v14)] → W p l e rm_X8_strikes s m args below meth c H locs 0 0 (MQ below (gQ G (PV Φ)) args s rm_X8_strikes.cells rm_X8_strikes.slots (Ab G.b)) (F0 m 114 ls []) := by
  intro n9
  induction n9 with
  | zero => intro S v9 v11 v13 v14 H locs ls h; exact (h : False).elim
  | succ n9 ih => intro S v9 v11 v13 v14 H locs ls h hO hS hl; exact bX8_strikes_b114 C0 Y hk92 ih S v9 v11 v13 v14 H locs ls h hO hS hl
def wX8_strikes_b92 (x0 : Nat) (x1 : Int32) (Φ : Hp → Prop) (k92 : Hp → Int64 → Int64 → Prop) (S : Hp) (v9 : Int64) (v11 : Int64) : Prop := ((0 < (lg_cmp v11 v9) → Φ S) ∧ (¬ (0 < (lg_cmp v11 v9)) → wJ9_floorMod_f86c9 S v11 24 (fun S2 r3 => ∃ n, it5 (wX8_strikes_b114 x0 x1 Φ k92) n S2 v9 v11 r3.toInt32 0)))
set_option maxHeartbeats 4000000 in
set_option maxRecDepth 100000 in
theorem bX8_strikes_b92 {p : Program} {l : Launch} {e : Env} {s : State} {m : MethodId} {args : Array Value} {below : List Frame} {meth : Method} {c : Code} {G : Gw} {x0 : Nat} {x1 : Int32} {Φ : Hp → Prop} (C0 : Mx p s m c cX8_strikes 15 args yX8_strikes.cls G) (Y : My meth none) {k92 : Hp → Int64 → Int64 → Prop} (hk92 : ∀ (S : Hp) (v9 : Int64) (v11 : Int64) (H : Heap) (locs : List Loc) (ls : Array Slot), k92 S v9 v11 → Ok G S H → va_S (Ab G.b) s.heap H locs → lv_has ls 15 [(0, .ref x0), (1, .int x1), (9, .long v9), (11, .long v11)] → W p l e rm_X8_strikes s m args below meth c H locs 0 0 (MQ below (gQ G (PV Φ)) args s rm_X8_strikes.cells rm_X8_strikes.slots (Ab G.b)) (F0 m 92 ls [])) : ∀ (S : Hp) (v9 : Int64) (v11 : Int64) (H : Heap) (locs : List Loc) (ls : Array Slot), wX8_strikes_b92 x0 x1 Φ k92 S v9 v11 → Ok G S H → va_S (Ab G.b) s.heap H locs → lv_has ls 15 [(0, .ref x0), (1, .int x1), (9, .long v9), (11, .long v11)] → W p l e rm_X8_strikes s m args below meth c H locs 0 0 (MQ below (gQ G (PV Φ)) args s rm_X8_strikes.cells rm_X8_strikes.slots (Ab G.b)) (F0 m 92 ls []) := by
  intro S v9 v11 H locs ls h hO hS hl
  unfold wX8_strikes_b92 at h
  refine lv_lload C0.1 C0.2.1 dX8_strikes_92 (lv_at hl 3 rfl) ?_
  refine lv_lload C0.1 C0.2.1 dX8_strikes_94 (lv_at hl 2 rfl) ?_
  refine W.lcmp C0.1 C0.2.1 dX8_strikes_96 ?_
  refine lv_if_gt (tgt := 168) C0.1 C0.2.1 dX8_strikes_97 (by decide) (fun c1 => ?_) (fun c1 => ?_)
  · have h := h.1 c1
    exact e_V C0 Y hO hS h (Nat.le_refl _) (Nat.le_refl _) dX8_strikes_168
  · have h := h.2 c1
    refine lv_lload C0.1 C0.2.1 dX8_strikes_100 (lv_at hl 3 rfl) ?_
    refine lv_ldc2 (v := 24) C0.1 C0.2.1 C0.2.2.2.1 (C0.2.2.2.2.1 _ tb_1531) dX8_strikes_102 ?_
    refine c_S C0 hO hS (mJ9_floorMod_f86c9 h) tb_1562 tb_351 tb_94 tb_352 hd_J9_floorMod_f86c9 rfl ⟨⟨by decide, by decide⟩, by decide, by decide⟩ hl.1 rfl (Nat.le_of_ble_eq_true rfl) dX8_strikes_105 (kJ (fun r3 S2 H locs h hO hS => ?_))
    refine lv_l2i C0.1 C0.2.1 dX8_strikes_108 rfl ?_
    refine lv_istore C0.1 C0.2.1 dX8_strikes_109 hl (by decide) rfl (fun ls hl => ?_)
    refine lv_iconst (v := 0) C0.1 C0.2.1 dX8_strikes_111 (by decide) ?_
    refine lv_istore C0.1 C0.2.1 dX8_strikes_112 hl (by decide) rfl (fun ls hl => ?_)
    obtain ⟨n9, h⟩ := h
    exact lX8_strikes_b114 C0 Y hk92 n9 _ _ _ _ _ _ _ _ h hO hS (lv_sub hl [2, 3, 4, 5, 1, 0] rfl)
set_option maxHeartbeats 4000000 in
set_option maxRecDepth 100000 in
theorem lX8_strikes_b92 {p : Program} {l : Launch} {e : Env} {s : State} {m : MethodId} {args : Array Value} {below : List Frame} {meth : Method} {c : Code} {G : Gw} {x0 : Nat} {x1 : Int32} {Φ : Hp → Prop} (C0 : Mx p s m c cX8_strikes 15 args yX8_strikes.cls G) (Y : My meth none)  : ∀ n9 : Nat, ∀ (S : Hp) (v9 : Int64) (v11 : Int64) (H : Heap) (locs : List Loc) (ls : Array Slot), it3 (wX8_strikes_b92 x0 x1 Φ) n9 S v9 v11 → Ok G S H → va_S (Ab G.b) s.heap H locs → lv_has ls 15 [(0, .ref x0), (1, .int x1), (9, .long v9), (11, .long v11)] → W p l e rm_X8_strikes s m args below meth c H locs 0 0 (MQ below (gQ G (PV Φ)) args s rm_X8_strikes.cells rm_X8_strikes.slots (Ab G.b)) (F0 m 92 ls []) := by
  intro n9
  induction n9 with
  | zero => intro S v9 v11 H locs ls h; exact (h : False).elim
  | succ n9 ih => intro S v9 v11 H locs ls h hO hS hl; exact bX8_strikes_b92 C0 Y ih S v9 v11 H locs ls h hO hS hl
def wX8_strikes_b0 (x0 : Nat) (x1 : Int32) (Φ : Hp → Prop) (S : Hp) : Prop := isA S x0 8 ∧ ∃ a2, S.FR 540 x0 = some a2 ∧ isA S a2 21 ∧ vp_in x1 (S.N a2) ∧ ∃ a5, S.FR 512 x0 = some a5 ∧ isA S a5 22 ∧ vp_in (S.AI a2 x1.toNatClampNeg) (S.N a5) ∧ ∃ a8, S.FR 513 x0 = some a8 ∧ isA S a8 22 ∧ vp_in (S.AI a2 x1.toNatClampNeg) (S.N a8) ∧ wX8_floor S 24 (S.AJ a5 ((S.AI a2 x1.toNatClampNeg).toNatClampNeg)) (S.AJ a8 ((S.AI a2 x1.toNatClampNeg).toNatClampNeg)) (fun S11 r12 => isA S11 x0 8 ∧ ∃ a14, S11.FR 512 x0 = some a14 ∧ isA S11 a14 22 ∧ vp_in (S.AI a2 x1.toNatClampNeg) (S11.N a14) ∧ ∃ a17, S11.FR 513 x0 = some a17 ∧ isA S11 a17 22 ∧ vp_in (S.AI a2 x1.toNatClampNeg) (S11.N a17) ∧ ∃ a20, S11.FR 514 x0 = some a20 ∧ isA S11 a20 22 ∧ vp_in (S.AI a2 x1.toNatClampNeg) (S11.N a20) ∧ ∃ a23, S11.FR 515 x0 = some a23 ∧ isA S11 a23 22 ∧ vp_in (S.AI a2 x1.toNatClampNeg) (S11.N a23) ∧ wX8_sum S11 x0 (S11.AJ a14 ((S.AI a2 x1.toNatClampNeg).toNatClampNeg)) (S11.AJ a17 ((S.AI a2 x1.toNatClampNeg).toNatClampNeg)) (S11.AJ a20 ((S.AI a2 x1.toNatClampNeg).toNatClampNeg)) (S11.AJ a23 ((S.AI a2 x1.toNatClampNeg).toNatClampNeg)) (fun S26 => isA S26 x0 8 ∧ wX8_floor S26 24 (S26.FJ 547 x0) (S26.FJ 548 x0) (fun S28 r29 => ∃ n, it3 (wX8_strikes_b92 x0 x1 Φ) n S28 (if r29 < r12 then r12 else r29) ((if r29 < r12 then r29 else r12) + 1))))
set_option maxHeartbeats 4000000 in
set_option maxRecDepth 100000 in
theorem bX8_strikes_b0 {p : Program} {l : Launch} {e : Env} {s : State} {m : MethodId} {args : Array Value} {below : List Frame} {meth : Method} {c : Code} {G : Gw} {x0 : Nat} {x1 : Int32} {Φ : Hp → Prop} (C0 : Mx p s m c cX8_strikes 15 args yX8_strikes.cls G) (Y : My meth none)  : ∀ (S : Hp) (H : Heap) (locs : List Loc) (ls : Array Slot), wX8_strikes_b0 x0 x1 Φ S → Ok G S H → va_S (Ab G.b) s.heap H locs → lv_has ls 15 [(0, .ref x0), (1, .int x1)] → W p l e rm_X8_strikes s m args below meth c H locs 0 0 (MQ below (gQ G (PV Φ)) args s rm_X8_strikes.cells rm_X8_strikes.slots (Ab G.b)) (F0 m 0 ls []) := by
  intro S H locs ls h hO hS hl
  unfold wX8_strikes_b0 at h
  refine lv_aload_n C0.1 C0.2.1 dX8_strikes_0 rfl (lv_at hl 0 rfl) ?_
  obtain ⟨i1, h⟩ := h
  obtain ⟨a2, ea2, h⟩ := h
  refine g8_28 C0 hO i1 ea2 tb_1356 dX8_strikes_1 ?_
  refine lv_iload_n C0.1 C0.2.1 dX8_strikes_4 rfl (lv_at hl 1 rfl) ?_
  obtain ⟨i3, h⟩ := h
  obtain ⟨e4, h⟩ := h
  refine r_iald C0 hO i3 e4 dX8_strikes_5 ?_
  refine lv_istore_n C0.1 C0.2.1 dX8_strikes_6 rfl hl (by decide) rfl (fun ls hl => ?_)
  refine lv_ldc2 (v := 24) C0.1 C0.2.1 C0.2.2.2.1 (C0.2.2.2.2.1 _ tb_1531) dX8_strikes_7 ?_
  refine lv_aload_n C0.1 C0.2.1 dX8_strikes_10 rfl (lv_at hl 1 rfl) ?_
  obtain ⟨a5, ea5, h⟩ := h
  refine g8_0 C0 hO i1 ea5 tb_1328 dX8_strikes_11 ?_
  refine lv_iload_n C0.1 C0.2.1 dX8_strikes_14 rfl (lv_at hl 0 rfl) ?_
  obtain ⟨i6, h⟩ := h
  obtain ⟨e7, h⟩ := h
  refine r_lald C0 hO i6 e7 dX8_strikes_15 ?_
  refine lv_aload_n C0.1 C0.2.1 dX8_strikes_16 rfl (lv_at hl 1 rfl) ?_
  obtain ⟨a8, ea8, h⟩ := h
  refine g8_1 C0 hO i1 ea8 tb_1329 dX8_strikes_17 ?_
  refine lv_iload_n C0.1 C0.2.1 dX8_strikes_20 rfl (lv_at hl 0 rfl) ?_
  obtain ⟨i9, h⟩ := h
  obtain ⟨e10, h⟩ := h
  refine r_lald C0 hO i9 e10 dX8_strikes_21 ?_
  refine c_S C0 hO hS (mX8_floor h) tb_1494 tb_1495 tb_81 tb_1496 hd_X8_floor rfl ⟨⟨by decide, by decide⟩, by decide, by decide⟩ hl.1 rfl (Nat.le_of_ble_eq_true rfl) dX8_strikes_22 (kJ (fun r12 S11 H locs h hO hS => ?_))
  refine lv_lstore_n C0.1 C0.2.1 dX8_strikes_25 rfl hl (by decide) rfl (fun ls hl => ?_)
  refine lv_aload_n C0.1 C0.2.1 dX8_strikes_26 rfl (lv_at hl 2 rfl) ?_
  refine lv_aload_n C0.1 C0.2.1 dX8_strikes_27 rfl (lv_at hl 2 rfl) ?_
  obtain ⟨i13, h⟩ := h
  obtain ⟨a14, ea14, h⟩ := h
  refine g8_0 C0 hO i13 ea14 tb_1328 dX8_strikes_28 ?_
  refine lv_iload_n C0.1 C0.2.1 dX8_strikes_31 rfl (lv_at hl 1 rfl) ?_
  obtain ⟨i15, h⟩ := h
  obtain ⟨e16, h⟩ := h
  refine r_lald C0 hO i15 e16 dX8_strikes_32 ?_
  refine lv_aload_n C0.1 C0.2.1 dX8_strikes_33 rfl (lv_at hl 2 rfl) ?_
  obtain ⟨a17, ea17, h⟩ := h
  refine g8_1 C0 hO i13 ea17 tb_1329 dX8_strikes_34 ?_
  refine lv_iload_n C0.1 C0.2.1 dX8_strikes_37 rfl (lv_at hl 1 rfl) ?_
  obtain ⟨i18, h⟩ := h
  obtain ⟨e19, h⟩ := h
  refine r_lald C0 hO i18 e19 dX8_strikes_38 ?_
  refine lv_aload_n C0.1 C0.2.1 dX8_strikes_39 rfl (lv_at hl 2 rfl) ?_
  obtain ⟨a20, ea20, h⟩ := h
  refine g8_2 C0 hO i13 ea20 tb_1330 dX8_strikes_40 ?_
  refine lv_iload_n C0.1 C0.2.1 dX8_strikes_43 rfl (lv_at hl 1 rfl) ?_
  obtain ⟨i21, h⟩ := h
  obtain ⟨e22, h⟩ := h
  refine r_lald C0 hO i21 e22 dX8_strikes_44 ?_
  refine lv_aload_n C0.1 C0.2.1 dX8_strikes_45 rfl (lv_at hl 2 rfl) ?_
  obtain ⟨a23, ea23, h⟩ := h
  refine g8_3 C0 hO i13 ea23 tb_1331 dX8_strikes_46 ?_
  refine lv_iload_n C0.1 C0.2.1 dX8_strikes_49 rfl (lv_at hl 1 rfl) ?_
  obtain ⟨i24, h⟩ := h
  obtain ⟨e25, h⟩ := h
  refine r_lald C0 hO i24 e25 dX8_strikes_50 ?_
  refine c_V C0 hO hS (mX8_sum h) i13 (by decide) rfl rfl tb_1548 tb_1550 tb_51 tb_81 tb_1551 hd_X8_sum rfl ⟨⟨by decide, by decide⟩, by decide, by decide⟩ hl.1 rfl (Nat.le_of_ble_eq_true rfl) dX8_strikes_51 (kV (fun S26 H locs h hO hS => ?_))
  refine lv_ldc2 (v := 24) C0.1 C0.2.1 C0.2.2.2.1 (C0.2.2.2.2.1 _ tb_1531) dX8_strikes_54 ?_
  refine lv_aload_n C0.1 C0.2.1 dX8_strikes_57 rfl (lv_at hl 2 rfl) ?_
  obtain ⟨i27, h⟩ := h
  refine g8_35 C0 hO i27 tb_1363 dX8_strikes_58 ?_
  refine lv_aload_n C0.1 C0.2.1 dX8_strikes_61 rfl (lv_at hl 2 rfl) ?_
  refine g8_36 C0 hO i27 tb_1364 dX8_strikes_62 ?_
  refine c_S C0 hO hS (mX8_floor h) tb_1494 tb_1495 tb_81 tb_1496 hd_X8_floor rfl ⟨⟨by decide, by decide⟩, by decide, by decide⟩ hl.1 rfl (Nat.le_of_ble_eq_true rfl) dX8_strikes_65 (kJ (fun r29 S28 H locs h hO hS => ?_))
  refine lv_lstore C0.1 C0.2.1 dX8_strikes_68 hl (by decide) rfl (fun ls hl => ?_)
  refine lv_lload_n C0.1 C0.2.1 dX8_strikes_70 rfl (lv_at hl 1 rfl) ?_
  refine lv_lload C0.1 C0.2.1 dX8_strikes_71 (lv_at hl 0 rfl) ?_
  refine va_mmin_long C0.1 C0.2.1 (C0.2.2.1.trans hl.1.symm) C0.2.2.2.1 (C0.2.2.2.2.1 _ tb_1561) (C0.2.2.2.2.1 _ tb_830) (C0.2.2.2.2.1 _ tb_94) (C0.2.2.2.2.1 _ tb_831) (Nat.le_of_ble_eq_true rfl) (Nat.le_of_ble_eq_true rfl) (by decide) (by decide) dX8_strikes_73 ?_
  refine lv_lconst (v := 1) C0.1 C0.2.1 dX8_strikes_76 (by decide) ?_
  refine lv_ladd C0.1 C0.2.1 dX8_strikes_77 ?_
  refine lv_lstore C0.1 C0.2.1 dX8_strikes_78 hl (by decide) rfl (fun ls hl => ?_)
  refine lv_lload_n C0.1 C0.2.1 dX8_strikes_80 rfl (lv_at hl 2 rfl) ?_
  refine lv_lload C0.1 C0.2.1 dX8_strikes_81 (lv_at hl 1 rfl) ?_
  refine va_mmax_long C0.1 C0.2.1 (C0.2.2.1.trans hl.1.symm) C0.2.2.2.1 (C0.2.2.2.2.1 _ tb_1552) (C0.2.2.2.2.1 _ tb_833) (C0.2.2.2.2.1 _ tb_94) (C0.2.2.2.2.1 _ tb_834) (Nat.le_of_ble_eq_true rfl) (Nat.le_of_ble_eq_true rfl) (by decide) (by decide) dX8_strikes_83 ?_
  refine lv_lstore C0.1 C0.2.1 dX8_strikes_86 hl (by decide) rfl (fun ls hl => ?_)
  refine lv_lload C0.1 C0.2.1 dX8_strikes_88 (lv_at hl 1 rfl) ?_
  refine lv_lstore C0.1 C0.2.1 dX8_strikes_90 hl (by decide) rfl (fun ls hl => ?_)
  obtain ⟨n9, h⟩ := h
  exact lX8_strikes_b92 C0 Y n9 _ _ _ _ _ _ h hO hS (lv_sub hl [6, 7, 1, 0] rfl)
def wX8_strikes (S : Hp) (x0 : Nat) (x1 : Int32) (Φ : Hp → Prop) : Prop := wX8_strikes_b0 x0 x1 Φ S
set_option maxRecDepth 100000 in
theorem mX8_strikes {l : Launch} {G : Gw} {S : Hp} {x0 : Nat} {x1 : Int32} {Φ : Hp → Prop} (h : wX8_strikes S x0 x1 Φ) : gM l yX8_strikes cX8_strikes 15 none rm_X8_strikes [.ref x0, .int x1] G S (PV Φ) := by
  unfold gM
  refine Met.ofW (cc := cX8_strikes) (maxL := 15) (ret := none) (by decide) rfl ?_
  intro p e s m args below meth c s₁ B hml hv
  obtain ⟨rfl, hw⟩ := hv
  obtain ⟨C0, Y, hO⟩ := mx_of B hml hw
  have hS : va_S (Ab G.b) s.heap s.heap [] := va_S.rf
  have hl := lv_entry ([.ref x0, .int x1]) (n := 15) (Nat.le_of_ble_eq_true rfl)
  rw [lg_entry_eq]
  generalize (lg_sl ([.ref x0, .int x1]) ++ List.replicate (15 - (lg_sl ([.ref x0, .int x1])).length) Slot.unset).toArray = ls at hl ⊢
  have hl : lv_has ls 15 [(0, .ref x0), (1, .int x1)] := hl
  exact bX8_strikes_b0 C0 Y S _ _ _ h hO hS hl

def rm_X8_step : Room := { frames := 5, cells := 0, slots := 0, locals := 135 }
def wX8_step_b127 (x0 : Nat) (x1 : Int32) (x2 : Int32) (Φ : Hp → Prop) (k61 : Hp → Int32 → Prop) (k69 : Hp → Int32 → Int32 → Prop) (S : Hp) (v3 : Int32) (v4 : Int32) : Prop := k69 S v3 (v4 + 1)
set_option maxHeartbeats 4000000 in
set_option maxRecDepth 100000 in
theorem bX8_step_b127 {p : Program} {l : Launch} {e : Env} {s : State} {m : MethodId} {args : Array Value} {below : List Frame} {meth : Method} {c : Code} {G : Gw} {x0 : Nat} {x1 : Int32} {x2 : Int32} {Φ : Hp → Prop} (C0 : Mx p s m c cX8_step 5 args yX8_step.cls G) (Y : My meth none) {k61 : Hp → Int32 → Prop} (hk61 : ∀ (S : Hp) (v3 : Int32) (H : Heap) (locs : List Loc) (ls : Array Slot), k61 S v3 → Ok G S H → va_S (Ab G.b) s.heap H locs → lv_has ls 5 [(0, .ref x0), (1, .int x1), (2, .int x2), (3, .int v3)] → W p l e rm_X8_step s m args below meth c H locs 0 0 (MQ below (gQ G (PV Φ)) args s rm_X8_step.cells rm_X8_step.slots (Ab G.b)) (F0 m 61 ls [])) {k69 : Hp → Int32 → Int32 → Prop} (hk69 : ∀ (S : Hp) (v3 : Int32) (v4 : Int32) (H : Heap) (locs : List Loc) (ls : Array Slot), k69 S v3 v4 → Ok G S H → va_S (Ab G.b) s.heap H locs → lv_has ls 5 [(0, .ref x0), (1, .int x1), (2, .int x2), (3, .int v3), (4, .int v4)] → W p l e rm_X8_step s m args below meth c H locs 0 0 (MQ below (gQ G (PV Φ)) args s rm_X8_step.cells rm_X8_step.slots (Ab G.b)) (F0 m 69 ls [])) : ∀ (S : Hp) (v3 : Int32) (v4 : Int32) (H : Heap) (locs : List Loc) (ls : Array Slot), wX8_step_b127 x0 x1 x2 Φ k61 k69 S v3 v4 → Ok G S H → va_S (Ab G.b) s.heap H locs → lv_has ls 5 [(0, .ref x0), (1, .int x1), (2, .int x2), (3, .int v3), (4, .int v4)] → W p l e rm_X8_step s m args below meth c H locs 0 0 (MQ below (gQ G (PV Φ)) args s rm_X8_step.cells rm_X8_step.slots (Ab G.b)) (F0 m 127 ls []) := by
  intro S v3 v4 H locs ls h hO hS hl
  unfold wX8_step_b127 at h
  refine lv_iinc (v := _ + 1) C0.1 C0.2.1 dX8_step_127 hl (k := 4) rfl rfl (by decide) rfl (fun ls hl => ?_)
  refine lv_goto (tgt := 69) C0.1 C0.2.1 dX8_step_130 (by decide) ?_
  exact hk69 _ _ _ _ _ _ h hO hS (lv_sub hl [1, 2, 3, 4, 0] rfl)
def wX8_step_b69 (x0 : Nat) (x1 : Int32) (x2 : Int32) (Φ : Hp → Prop) (k61 : Hp → Int32 → Prop) (k69 : Hp → Int32 → Int32 → Prop) (S : Hp) (v3 : Int32) (v4 : Int32) : Prop := isA S x0 8 ∧ (((S.FI 543 x0) ≤ v4 → k61 S (v3 + 1)) ∧ (¬ ((S.FI 543 x0) ≤ v4) → ∃ a3, S.FR 518 x0 = some a3 ∧ isA S a3 23 ∧ vp_in v4 (S.N a3) ∧ (((S.AI a3 v4.toNatClampNeg) = 0 → wX8_step_b127 x0 x1 x2 Φ k61 k69 S v3 v4) ∧ (¬ ((S.AI a3 v4.toNatClampNeg) = 0) → ∃ a7, S.FR 520 x0 = some a7 ∧ isA S a7 21 ∧ vp_in v4 (S.N a7) ∧ ((¬ (S.AI a7 v4.toNatClampNeg) = v3 → wX8_step_b127 x0 x1 x2 Φ k61 k69 S v3 v4) ∧ ((S.AI a7 v4.toNatClampNeg) = v3 → wX8_follow S x0 v4 (fun S11 => isA S11 x0 8 ∧ ∃ a13, S11.FR 514 x0 = some a13 ∧ isA S11 a13 22 ∧ vp_in v4 (S11.N a13) ∧ ∀ S16, S16 = S11.setAJ a13 v4.toNatClampNeg (S11.FJ 547 x0) → ∃ a17, S16.FR 515 x0 = some a17 ∧ isA S16 a17 22 ∧ vp_in v4 (S16.N a17) ∧ ∀ S20, S20 = S16.setAJ a17 v4.toNatClampNeg (S16.FJ 548 x0) → wX8_step_b127 x0 x1 x2 Φ k61 k69 S20 v3 v4)))))))
set_option maxHeartbeats 4000000 in
set_option maxRecDepth 100000 in
theorem bX8_step_b69 {p : Program} {l : Launch} {e : Env} {s : State} {m : MethodId} {args : Array Value} {below : List Frame} {meth : Method} {c : Code} {G : Gw} {x0 : Nat} {x1 : Int32} {x2 : Int32} {Φ : Hp → Prop} (C0 : Mx p s m c cX8_step 5 args yX8_step.cls G) (Y : My meth none) {k61 : Hp → Int32 → Prop} (hk61 : ∀ (S : Hp) (v3 : Int32) (H : Heap) (locs : List Loc) (ls : Array Slot), k61 S v3 → Ok G S H → va_S (Ab G.b) s.heap H locs → lv_has ls 5 [(0, .ref x0), (1, .int x1), (2, .int x2), (3, .int v3)] → W p l e rm_X8_step s m args below meth c H locs 0 0 (MQ below (gQ G (PV Φ)) args s rm_X8_step.cells rm_X8_step.slots (Ab G.b)) (F0 m 61 ls [])) {k69 : Hp → Int32 → Int32 → Prop} (hk69 : ∀ (S : Hp) (v3 : Int32) (v4 : Int32) (H : Heap) (locs : List Loc) (ls : Array Slot), k69 S v3 v4 → Ok G S H → va_S (Ab G.b) s.heap H locs → lv_has ls 5 [(0, .ref x0), (1, .int x1), (2, .int x2), (3, .int v3), (4, .int v4)] → W p l e rm_X8_step s m args below meth c H locs 0 0 (MQ below (gQ G (PV Φ)) args s rm_X8_step.cells rm_X8_step.slots (Ab G.b)) (F0 m 69 ls [])) : ∀ (S : Hp) (v3 : Int32) (v4 : Int32) (H : Heap) (locs : List Loc) (ls : Array Slot), wX8_step_b69 x0 x1 x2 Φ k61 k69 S v3 v4 → Ok G S H → va_S (Ab G.b) s.heap H locs → lv_has ls 5 [(0, .ref x0), (1, .int x1), (2, .int x2), (3, .int v3), (4, .int v4)] → W p l e rm_X8_step s m args below meth c H locs 0 0 (MQ below (gQ G (PV Φ)) args s rm_X8_step.cells rm_X8_step.slots (Ab G.b)) (F0 m 69 ls []) := by
  intro S v3 v4 H locs ls h hO hS hl
  unfold wX8_step_b69 at h
  refine lv_iload C0.1 C0.2.1 dX8_step_69 (lv_at hl 4 rfl) ?_
  refine lv_aload_n C0.1 C0.2.1 dX8_step_71 rfl (lv_at hl 0 rfl) ?_
  obtain ⟨i1, h⟩ := h
  refine g8_31 C0 hO i1 tb_1359 dX8_step_72 ?_
  refine lv_icmp_ge (tgt := 133) C0.1 C0.2.1 dX8_step_75 (by decide) (fun c2 => ?_) (fun c2 => ?_)
  · have h := h.1 c2
    refine lv_iinc (v := _ + 1) C0.1 C0.2.1 dX8_step_133 hl (k := 3) rfl rfl (by decide) rfl (fun ls hl => ?_)
    refine lv_goto (tgt := 61) C0.1 C0.2.1 dX8_step_136 (by decide) ?_
    exact hk61 _ _ _ _ _ h hO hS (lv_sub hl [1, 2, 3, 0] rfl)
  · have h := h.2 c2
    refine lv_aload_n C0.1 C0.2.1 dX8_step_78 rfl (lv_at hl 0 rfl) ?_
    obtain ⟨a3, ea3, h⟩ := h
    refine g8_6 C0 hO i1 ea3 tb_1334 dX8_step_79 ?_
    refine lv_iload C0.1 C0.2.1 dX8_step_82 (lv_at hl 4 rfl) ?_
    obtain ⟨i4, h⟩ := h
    obtain ⟨e5, h⟩ := h
    refine r_zald C0 hO i4 e5 dX8_step_84 ?_
    refine lv_if_eq (tgt := 127) C0.1 C0.2.1 dX8_step_85 (by decide) (fun c6 => ?_) (fun c6 => ?_)
    · have h := h.1 c6
      exact bX8_step_b127 C0 Y hk61 hk69 _ _ _ _ _ _ h hO hS (lv_sub hl [0, 1, 2, 3, 4] rfl)
    · have h := h.2 c6
      refine lv_aload_n C0.1 C0.2.1 dX8_step_88 rfl (lv_at hl 0 rfl) ?_
      obtain ⟨a7, ea7, h⟩ := h
      refine g8_8 C0 hO i1 ea7 tb_1336 dX8_step_89 ?_
      refine lv_iload C0.1 C0.2.1 dX8_step_92 (lv_at hl 4 rfl) ?_
      obtain ⟨i8, h⟩ := h
      obtain ⟨e9, h⟩ := h
      refine r_iald C0 hO i8 e9 dX8_step_94 ?_
      refine lv_iload_n C0.1 C0.2.1 dX8_step_95 rfl (lv_at hl 3 rfl) ?_
      refine lv_icmp_ne (tgt := 127) C0.1 C0.2.1 dX8_step_96 (by decide) (fun c10 => ?_) (fun c10 => ?_)
      · have h := h.1 c10
        exact bX8_step_b127 C0 Y hk61 hk69 _ _ _ _ _ _ h hO hS (lv_sub hl [0, 1, 2, 3, 4] rfl)
      · have h := h.2 c10
        refine lv_aload_n C0.1 C0.2.1 dX8_step_99 rfl (lv_at hl 0 rfl) ?_
        refine lv_iload C0.1 C0.2.1 dX8_step_100 (lv_at hl 4 rfl) ?_
        refine c_V C0 hO hS (mX8_follow h) i1 (by decide) rfl rfl tb_1540 tb_1542 tb_49 tb_81 tb_1543 hd_X8_follow rfl ⟨⟨by decide, by decide⟩, by decide, by decide⟩ hl.1 rfl (Nat.le_of_ble_eq_true rfl) dX8_step_102 (kV (fun S11 H locs h hO hS => ?_))
        refine lv_aload_n C0.1 C0.2.1 dX8_step_105 rfl (lv_at hl 0 rfl) ?_
        obtain ⟨i12, h⟩ := h
        obtain ⟨a13, ea13, h⟩ := h
        refine g8_2 C0 hO i12 ea13 tb_1330 dX8_step_106 ?_
        refine lv_iload C0.1 C0.2.1 dX8_step_109 (lv_at hl 4 rfl) ?_
        refine lv_aload_n C0.1 C0.2.1 dX8_step_111 rfl (lv_at hl 0 rfl) ?_
        refine g8_35 C0 hO i12 tb_1363 dX8_step_112 ?_
        obtain ⟨i14, h⟩ := h
        obtain ⟨e15, h⟩ := h
        refine r_last C0 hO hS i14 e15 dX8_step_115 (fun H locs hO hS => ?_)
        have h := h _ rfl
        refine lv_aload_n C0.1 C0.2.1 dX8_step_116 rfl (lv_at hl 0 rfl) ?_
        obtain ⟨a17, ea17, h⟩ := h
        refine g8_3 C0 hO (sA_AJ i12) ea17 tb_1331 dX8_step_117 ?_
        refine lv_iload C0.1 C0.2.1 dX8_step_120 (lv_at hl 4 rfl) ?_
        refine lv_aload_n C0.1 C0.2.1 dX8_step_122 rfl (lv_at hl 0 rfl) ?_
        refine g8_36 C0 hO (sA_AJ i12) tb_1364 dX8_step_123 ?_
        obtain ⟨i18, h⟩ := h
        obtain ⟨e19, h⟩ := h
        refine r_last C0 hO hS i18 e19 dX8_step_126 (fun H locs hO hS => ?_)
        have h := h _ rfl
        exact bX8_step_b127 C0 Y hk61 hk69 _ _ _ _ _ _ h hO hS (lv_sub hl [0, 1, 2, 3, 4] rfl)
set_option maxHeartbeats 4000000 in
set_option maxRecDepth 100000 in
theorem lX8_step_b69 {p : Program} {l : Launch} {e : Env} {s : State} {m : MethodId} {args : Array Value} {below : List Frame} {meth : Method} {c : Code} {G : Gw} {x0 : Nat} {x1 : Int32} {x2 : Int32} {Φ : Hp → Prop} (C0 : Mx p s m c cX8_step 5 args yX8_step.cls G) (Y : My meth none) {k61 : Hp → Int32 → Prop} (hk61 : ∀ (S : Hp) (v3 : Int32) (H : Heap) (locs : List Loc) (ls : Array Slot), k61 S v3 → Ok G S H → va_S (Ab G.b) s.heap H locs → lv_has ls 5 [(0, .ref x0), (1, .int x1), (2, .int x2), (3, .int v3)] → W p l e rm_X8_step s m args below meth c H locs 0 0 (MQ below (gQ G (PV Φ)) args s rm_X8_step.cells rm_X8_step.slots (Ab G.b)) (F0 m 61 ls [])) : ∀ n9 : Nat, ∀ (S : Hp) (v3 : Int32) (v4 : Int32) (H : Heap) (locs : List Loc) (ls : Array Slot), it3 (wX8_step_b69 x0 x1 x2 Φ k61) n9 S v3 v4 → Ok G S H → va_S (Ab G.b) s.heap H locs → lv_has ls 5 [(0, .ref x0), (1, .int x1), (2, .int x2), (3, .int v3), (4, .int v4)] → W p l e rm_X8_step s m args below meth c H locs 0 0 (MQ below (gQ G (PV Φ)) args s rm_X8_step.cells rm_X8_step.slots (Ab G.b)) (F0 m 69 ls []) := by
  intro n9
  induction n9 with
  | zero => intro S v3 v4 H locs ls h; exact (h : False).elim
  | succ n9 ih => intro S v3 v4 H locs ls h hO hS hl; exact bX8_step_b69 C0 Y hk61 ih S v3 v4 H locs ls h hO hS hl
def wX8_step_b199 (x0 : Nat) (x1 : Int32) (x2 : Int32) (Φ : Hp → Prop) (k141 : Hp → Int32 → Prop) (S : Hp) (v3 : Int32) : Prop := k141 S (v3 + 1)
set_option maxHeartbeats 4000000 in
set_option maxRecDepth 100000 in
theorem bX8_step_b199 {p : Program} {l : Launch} {e : Env} {s : State} {m : MethodId} {args : Array Value} {below : List Frame} {meth : Method} {c : Code} {G : Gw} {x0 : Nat} {x1 : Int32} {x2 : Int32} {Φ : Hp → Prop} (C0 : Mx p s m c cX8_step 5 args yX8_step.cls G) (Y : My meth none) {k141 : Hp → Int32 → Prop} (hk141 : ∀ (S : Hp) (v3 : Int32) (H : Heap) (locs : List Loc) (ls : Array Slot), k141 S v3 → Ok G S H → va_S (Ab G.b) s.heap H locs → lv_has ls 5 [(0, .ref x0), (1, .int x1), (2, .int x2), (3, .int v3)] → W p l e rm_X8_step s m args below meth c H locs 0 0 (MQ below (gQ G (PV Φ)) args s rm_X8_step.cells rm_X8_step.slots (Ab G.b)) (F0 m 141 ls [])) : ∀ (S : Hp) (v3 : Int32) (H : Heap) (locs : List Loc) (ls : Array Slot), wX8_step_b199 x0 x1 x2 Φ k141 S v3 → Ok G S H → va_S (Ab G.b) s.heap H locs → lv_has ls 5 [(0, .ref x0), (1, .int x1), (2, .int x2), (3, .int v3)] → W p l e rm_X8_step s m args below meth c H locs 0 0 (MQ below (gQ G (PV Φ)) args s rm_X8_step.cells rm_X8_step.slots (Ab G.b)) (F0 m 199 ls []) := by
  intro S v3 H locs ls h hO hS hl
  unfold wX8_step_b199 at h
  refine lv_iinc (v := _ + 1) C0.1 C0.2.1 dX8_step_199 hl (k := 3) rfl rfl (by decide) rfl (fun ls hl => ?_)
  refine lv_goto (tgt := 141) C0.1 C0.2.1 dX8_step_202 (by decide) ?_
  exact hk141 _ _ _ _ _ h hO hS (lv_sub hl [1, 2, 3, 0] rfl)
def wX8_step_b228 (x0 : Nat) (x1 : Int32) (x2 : Int32) (Φ : Hp → Prop) (k228 : Hp → Int32 → Prop) (S : Hp) (v3 : Int32) : Prop := isA S x0 8 ∧ (((S.FI 543 x0) ≤ v3 → Φ S) ∧ (¬ ((S.FI 543 x0) ≤ v3) → ∃ a3, S.FR 512 x0 = some a3 ∧ isA S a3 22 ∧ vp_in v3 (S.N a3) ∧ ∃ a6, S.FR 513 x0 = some a6 ∧ isA S a6 22 ∧ vp_in v3 (S.N a6) ∧ ∃ a9, S.FR 514 x0 = some a9 ∧ isA S a9 22 ∧ vp_in v3 (S.N a9) ∧ ∃ a12, S.FR 515 x0 = some a12 ∧ isA S a12 22 ∧ vp_in v3 (S.N a12) ∧ wX8_sum S x0 (S.AJ a3 v3.toNatClampNeg) (S.AJ a6 v3.toNatClampNeg) (S.AJ a9 v3.toNatClampNeg) (S.AJ a12 v3.toNatClampNeg) (fun S15 => isA S15 x0 8 ∧ ∃ a17, S15.FR 512 x0 = some a17 ∧ isA S15 a17 22 ∧ vp_in v3 (S15.N a17) ∧ ∀ S20, S20 = S15.setAJ a17 v3.toNatClampNeg (S15.FJ 547 x0) → ∃ a21, S20.FR 513 x0 = some a21 ∧ isA S20 a21 22 ∧ vp_in v3 (S20.N a21) ∧ ∀ S24, S24 = S20.setAJ a21 v3.toNatClampNeg (S20.FJ 548 x0) → k228 S24 (v3 + 1))))
set_option maxHeartbeats 4000000 in
set_option maxRecDepth 100000 in
theorem bX8_step_b228 {p : Program} {l : Launch} {e : Env} {s : State} {m : MethodId} {args : Array Value} {below : List Frame} {meth : Method} {c : Code} {G : Gw} {x0 : Nat} {x1 : Int32} {x2 : Int32} {Φ : Hp → Prop} (C0 : Mx p s m c cX8_step 5 args yX8_step.cls G) (Y : My meth none) {k228 : Hp → Int32 → Prop} (hk228 : ∀ (S : Hp) (v3 : Int32) (H : Heap) (locs : List Loc) (ls : Array Slot), k228 S v3 → Ok G S H → va_S (Ab G.b) s.heap H locs → lv_has ls 5 [(0, .ref x0), (1, .int x1), (2, .int x2), (3, .int v3)] → W p l e rm_X8_step s m args below meth c H locs 0 0 (MQ below (gQ G (PV Φ)) args s rm_X8_step.cells rm_X8_step.slots (Ab G.b)) (F0 m 228 ls [])) : ∀ (S : Hp) (v3 : Int32) (H : Heap) (locs : List Loc) (ls : Array Slot), wX8_step_b228 x0 x1 x2 Φ k228 S v3 → Ok G S H → va_S (Ab G.b) s.heap H locs → lv_has ls 5 [(0, .ref x0), (1, .int x1), (2, .int x2), (3, .int v3)] → W p l e rm_X8_step s m args below meth c H locs 0 0 (MQ below (gQ G (PV Φ)) args s rm_X8_step.cells rm_X8_step.slots (Ab G.b)) (F0 m 228 ls []) := by
  intro S v3 H locs ls h hO hS hl
  unfold wX8_step_b228 at h
  refine lv_iload_n C0.1 C0.2.1 dX8_step_228 rfl (lv_at hl 3 rfl) ?_
  refine lv_aload_n C0.1 C0.2.1 dX8_step_229 rfl (lv_at hl 0 rfl) ?_
  obtain ⟨i1, h⟩ := h
  refine g8_31 C0 hO i1 tb_1359 dX8_step_230 ?_
  refine lv_icmp_ge (tgt := 290) C0.1 C0.2.1 dX8_step_233 (by decide) (fun c2 => ?_) (fun c2 => ?_)
  · have h := h.1 c2
    exact e_V C0 Y hO hS h (Nat.le_refl _) (Nat.le_refl _) dX8_step_290
  · have h := h.2 c2
    refine lv_aload_n C0.1 C0.2.1 dX8_step_236 rfl (lv_at hl 0 rfl) ?_
    refine lv_aload_n C0.1 C0.2.1 dX8_step_237 rfl (lv_at hl 0 rfl) ?_
    obtain ⟨a3, ea3, h⟩ := h
    refine g8_0 C0 hO i1 ea3 tb_1328 dX8_step_238 ?_
    refine lv_iload_n C0.1 C0.2.1 dX8_step_241 rfl (lv_at hl 3 rfl) ?_
    obtain ⟨i4, h⟩ := h
    obtain ⟨e5, h⟩ := h
    refine r_lald C0 hO i4 e5 dX8_step_242 ?_
    refine lv_aload_n C0.1 C0.2.1 dX8_step_243 rfl (lv_at hl 0 rfl) ?_
    obtain ⟨a6, ea6, h⟩ := h
    refine g8_1 C0 hO i1 ea6 tb_1329 dX8_step_244 ?_
    refine lv_iload_n C0.1 C0.2.1 dX8_step_247 rfl (lv_at hl 3 rfl) ?_
    obtain ⟨i7, h⟩ := h
    obtain ⟨e8, h⟩ := h
    refine r_lald C0 hO i7 e8 dX8_step_248 ?_
    refine lv_aload_n C0.1 C0.2.1 dX8_step_249 rfl (lv_at hl 0 rfl) ?_
    obtain ⟨a9, ea9, h⟩ := h
    refine g8_2 C0 hO i1 ea9 tb_1330 dX8_step_250 ?_
    refine lv_iload_n C0.1 C0.2.1 dX8_step_253 rfl (lv_at hl 3 rfl) ?_
    obtain ⟨i10, h⟩ := h
    obtain ⟨e11, h⟩ := h
    refine r_lald C0 hO i10 e11 dX8_step_254 ?_
    refine lv_aload_n C0.1 C0.2.1 dX8_step_255 rfl (lv_at hl 0 rfl) ?_
    obtain ⟨a12, ea12, h⟩ := h
    refine g8_3 C0 hO i1 ea12 tb_1331 dX8_step_256 ?_
    refine lv_iload_n C0.1 C0.2.1 dX8_step_259 rfl (lv_at hl 3 rfl) ?_
    obtain ⟨i13, h⟩ := h
    obtain ⟨e14, h⟩ := h
    refine r_lald C0 hO i13 e14 dX8_step_260 ?_
    refine c_V C0 hO hS (mX8_sum h) i1 (by decide) rfl rfl tb_1548 tb_1550 tb_51 tb_81 tb_1551 hd_X8_sum rfl ⟨⟨by decide, by decide⟩, by decide, by decide⟩ hl.1 rfl (Nat.le_of_ble_eq_true rfl) dX8_step_261 (kV (fun S15 H locs h hO hS => ?_))
    refine lv_aload_n C0.1 C0.2.1 dX8_step_264 rfl (lv_at hl 0 rfl) ?_
    obtain ⟨i16, h⟩ := h
    obtain ⟨a17, ea17, h⟩ := h
    refine g8_0 C0 hO i16 ea17 tb_1328 dX8_step_265 ?_
    refine lv_iload_n C0.1 C0.2.1 dX8_step_268 rfl (lv_at hl 3 rfl) ?_
    refine lv_aload_n C0.1 C0.2.1 dX8_step_269 rfl (lv_at hl 0 rfl) ?_
    refine g8_35 C0 hO i16 tb_1363 dX8_step_270 ?_
    obtain ⟨i18, h⟩ := h
    obtain ⟨e19, h⟩ := h
    refine r_last C0 hO hS i18 e19 dX8_step_273 (fun H locs hO hS => ?_)
    have h := h _ rfl
    refine lv_aload_n C0.1 C0.2.1 dX8_step_274 rfl (lv_at hl 0 rfl) ?_
    obtain ⟨a21, ea21, h⟩ := h
    refine g8_1 C0 hO (sA_AJ i16) ea21 tb_1329 dX8_step_275 ?_
    refine lv_iload_n C0.1 C0.2.1 dX8_step_278 rfl (lv_at hl 3 rfl) ?_
    refine lv_aload_n C0.1 C0.2.1 dX8_step_279 rfl (lv_at hl 0 rfl) ?_
    refine g8_36 C0 hO (sA_AJ i16) tb_1364 dX8_step_280 ?_
    obtain ⟨i22, h⟩ := h
    obtain ⟨e23, h⟩ := h
    refine r_last C0 hO hS i22 e23 dX8_step_283 (fun H locs hO hS => ?_)
    have h := h _ rfl
    refine lv_iinc (v := _ + 1) C0.1 C0.2.1 dX8_step_284 hl (k := 3) rfl rfl (by decide) rfl (fun ls hl => ?_)
    refine lv_goto (tgt := 228) C0.1 C0.2.1 dX8_step_287 (by decide) ?_
    exact hk228 _ _ _ _ _ h hO hS (lv_sub hl [1, 2, 3, 0] rfl)
set_option maxHeartbeats 4000000 in
set_option maxRecDepth 100000 in
theorem lX8_step_b228 {p : Program} {l : Launch} {e : Env} {s : State} {m : MethodId} {args : Array Value} {below : List Frame} {meth : Method} {c : Code} {G : Gw} {x0 : Nat} {x1 : Int32} {x2 : Int32} {Φ : Hp → Prop} (C0 : Mx p s m c cX8_step 5 args yX8_step.cls G) (Y : My meth none)  : ∀ n9 : Nat, ∀ (S : Hp) (v3 : Int32) (H : Heap) (locs : List Loc) (ls : Array Slot), it2 (wX8_step_b228 x0 x1 x2 Φ) n9 S v3 → Ok G S H → va_S (Ab G.b) s.heap H locs → lv_has ls 5 [(0, .ref x0), (1, .int x1), (2, .int x2), (3, .int v3)] → W p l e rm_X8_step s m args below meth c H locs 0 0 (MQ below (gQ G (PV Φ)) args s rm_X8_step.cells rm_X8_step.slots (Ab G.b)) (F0 m 228 ls []) := by
  intro n9
  induction n9 with
  | zero => intro S v3 H locs ls h; exact (h : False).elim
  | succ n9 ih => intro S v3 H locs ls h hO hS hl; exact bX8_step_b228 C0 Y ih S v3 H locs ls h hO hS hl
def wX8_step_b207 (x0 : Nat) (x1 : Int32) (x2 : Int32) (Φ : Hp → Prop) (k207 : Hp → Int32 → Prop) (S : Hp) (v3 : Int32) : Prop := isA S x0 8 ∧ (((S.FI 546 x0) ≤ v3 → ∃ n, it2 (wX8_step_b228 x0 x1 x2 Φ) n S 0) ∧ (¬ ((S.FI 546 x0) ≤ v3) → wX8_strikes S x0 v3 (fun S3 => k207 S3 (v3 + 1))))
set_option maxHeartbeats 4000000 in
set_option maxRecDepth 100000 in
theorem bX8_step_b207 {p : Program} {l : Launch} {e : Env} {s : State} {m : MethodId} {args : Array Value} {below : List Frame} {meth : Method} {c : Code} {G : Gw} {x0 : Nat} {x1 : Int32} {x2 : Int32} {Φ : Hp → Prop} (C0 : Mx p s m c cX8_step 5 args yX8_step.cls G) (Y : My meth none) {k207 : Hp → Int32 → Prop} (hk207 : ∀ (S : Hp) (v3 : Int32) (H : Heap) (locs : List Loc) (ls : Array Slot), k207 S v3 → Ok G S H → va_S (Ab G.b) s.heap H locs → lv_has ls 5 [(0, .ref x0), (1, .int x1), (2, .int x2), (3, .int v3)] → W p l e rm_X8_step s m args below meth c H locs 0 0 (MQ below (gQ G (PV Φ)) args s rm_X8_step.cells rm_X8_step.slots (Ab G.b)) (F0 m 207 ls [])) : ∀ (S : Hp) (v3 : Int32) (H : Heap) (locs : List Loc) (ls : Array Slot), wX8_step_b207 x0 x1 x2 Φ k207 S v3 → Ok G S H → va_S (Ab G.b) s.heap H locs → lv_has ls 5 [(0, .ref x0), (1, .int x1), (2, .int x2), (3, .int v3)] → W p l e rm_X8_step s m args below meth c H locs 0 0 (MQ below (gQ G (PV Φ)) args s rm_X8_step.cells rm_X8_step.slots (Ab G.b)) (F0 m 207 ls []) := by
  intro S v3 H locs ls h hO hS hl
  unfold wX8_step_b207 at h
  refine lv_iload_n C0.1 C0.2.1 dX8_step_207 rfl (lv_at hl 3 rfl) ?_
  refine lv_aload_n C0.1 C0.2.1 dX8_step_208 rfl (lv_at hl 0 rfl) ?_
  obtain ⟨i1, h⟩ := h
  refine g8_34 C0 hO i1 tb_1362 dX8_step_209 ?_
  refine lv_icmp_ge (tgt := 226) C0.1 C0.2.1 dX8_step_212 (by decide) (fun c2 => ?_) (fun c2 => ?_)
  · have h := h.1 c2
    refine lv_iconst (v := 0) C0.1 C0.2.1 dX8_step_226 (by decide) ?_
    refine lv_istore_n C0.1 C0.2.1 dX8_step_227 rfl hl (by decide) rfl (fun ls hl => ?_)
    obtain ⟨n9, h⟩ := h
    exact lX8_step_b228 C0 Y n9 _ _ _ _ _ h hO hS (lv_sub hl [1, 2, 3, 0] rfl)
  · have h := h.2 c2
    refine lv_aload_n C0.1 C0.2.1 dX8_step_215 rfl (lv_at hl 0 rfl) ?_
    refine lv_iload_n C0.1 C0.2.1 dX8_step_216 rfl (lv_at hl 3 rfl) ?_
    refine c_V C0 hO hS (mX8_strikes h) i1 (by decide) rfl rfl tb_1557 tb_1559 tb_53 tb_81 tb_1560 hd_X8_strikes rfl ⟨⟨by decide, by decide⟩, by decide, by decide⟩ hl.1 rfl (Nat.le_of_ble_eq_true rfl) dX8_step_217 (kV (fun S3 H locs h hO hS => ?_))
    refine lv_iinc (v := _ + 1) C0.1 C0.2.1 dX8_step_220 hl (k := 3) rfl rfl (by decide) rfl (fun ls hl => ?_)
    refine lv_goto (tgt := 207) C0.1 C0.2.1 dX8_step_223 (by decide) ?_
    exact hk207 _ _ _ _ _ h hO hS (lv_sub hl [1, 2, 3, 0] rfl)
set_option maxHeartbeats 4000000 in
set_option maxRecDepth 100000 in
theorem lX8_step_b207 {p : Program} {l : Launch} {e : Env} {s : State} {m : MethodId} {args : Array Value} {below : List Frame} {meth : Method} {c : Code} {G : Gw} {x0 : Nat} {x1 : Int32} {x2 : Int32} {Φ : Hp → Prop} (C0 : Mx p s m c cX8_step 5 args yX8_step.cls G) (Y : My meth none)  : ∀ n9 : Nat, ∀ (S : Hp) (v3 : Int32) (H : Heap) (locs : List Loc) (ls : Array Slot), it2 (wX8_step_b207 x0 x1 x2 Φ) n9 S v3 → Ok G S H → va_S (Ab G.b) s.heap H locs → lv_has ls 5 [(0, .ref x0), (1, .int x1), (2, .int x2), (3, .int v3)] → W p l e rm_X8_step s m args below meth c H locs 0 0 (MQ below (gQ G (PV Φ)) args s rm_X8_step.cells rm_X8_step.slots (Ab G.b)) (F0 m 207 ls []) := by
  intro n9
  induction n9 with
  | zero => intro S v3 H locs ls h; exact (h : False).elim
  | succ n9 ih => intro S v3 H locs ls h hO hS hl; exact bX8_step_b207 C0 Y ih S v3 H locs ls h hO hS hl
def wX8_step_b141 (x0 : Nat) (x1 : Int32) (x2 : Int32) (Φ : Hp → Prop) (k141 : Hp → Int32 → Prop) (S : Hp) (v3 : Int32) : Prop := isA S x0 8 ∧ (((S.FI 544 x0) ≤ v3 → ∃ n, it2 (wX8_step_b207 x0 x1 x2 Φ) n S 0) ∧ (¬ ((S.FI 544 x0) ≤ v3) → ∃ a3, S.FR 528 x0 = some a3 ∧ isA S a3 23 ∧ vp_in v3 (S.N a3) ∧ ((¬ (S.AI a3 v3.toNatClampNeg) = 0 → wX8_step_b199 x0 x1 x2 Φ k141 S v3) ∧ ((S.AI a3 v3.toNatClampNeg) = 0 → ∃ a7, S.FR 527 x0 = some a7 ∧ isA S a7 23 ∧ vp_in v3 (S.N a7) ∧ ((¬ (S.AI a7 v3.toNatClampNeg) = 0 → wX8_step_b199 x0 x1 x2 Φ k141 S v3) ∧ ((S.AI a7 v3.toNatClampNeg) = 0 → ∃ a11, S.FR 522 x0 = some a11 ∧ isA S a11 21 ∧ vp_in v3 (S.N a11) ∧ wX8_wears S x0 v3 (S.AI a11 v3.toNatClampNeg) (fun S14 => isA S14 x0 8 ∧ ∃ a16, S14.FR 523 x0 = some a16 ∧ isA S14 a16 21 ∧ vp_in v3 (S14.N a16) ∧ (((S14.AI a16 v3.toNatClampNeg) = (-1) → wX8_step_b199 x0 x1 x2 Φ k141 S14 v3) ∧ (¬ ((S14.AI a16 v3.toNatClampNeg) = (-1)) → ∃ a20, S14.FR 523 x0 = some a20 ∧ isA S14 a20 21 ∧ vp_in v3 (S14.N a20) ∧ wX8_wears S14 x0 v3 (S14.AI a20 v3.toNatClampNeg) (fun S23 => wX8_step_b199 x0 x1 x2 Φ k141 S23 v3))))))))))
set_option maxHeartbeats 4000000 in
set_option maxRecDepth 100000 in
theorem bX8_step_b141 {p : Program} {l : Launch} {e : Env} {s : State} {m : MethodId} {args : Array Value} {below : List Frame} {meth : Method} {c : Code} {G : Gw} {x0 : Nat} {x1 : Int32} {x2 : Int32} {Φ : Hp → Prop} (C0 : Mx p s m c cX8_step 5 args yX8_step.cls G) (Y : My meth none) {k141 : Hp → Int32 → Prop} (hk141 : ∀ (S : Hp) (v3 : Int32) (H : Heap) (locs : List Loc) (ls : Array Slot), k141 S v3 → Ok G S H → va_S (Ab G.b) s.heap H locs → lv_has ls 5 [(0, .ref x0), (1, .int x1), (2, .int x2), (3, .int v3)] → W p l e rm_X8_step s m args below meth c H locs 0 0 (MQ below (gQ G (PV Φ)) args s rm_X8_step.cells rm_X8_step.slots (Ab G.b)) (F0 m 141 ls [])) : ∀ (S : Hp) (v3 : Int32) (H : Heap) (locs : List Loc) (ls : Array Slot), wX8_step_b141 x0 x1 x2 Φ k141 S v3 → Ok G S H → va_S (Ab G.b) s.heap H locs → lv_has ls 5 [(0, .ref x0), (1, .int x1), (2, .int x2), (3, .int v3)] → W p l e rm_X8_step s m args below meth c H locs 0 0 (MQ below (gQ G (PV Φ)) args s rm_X8_step.cells rm_X8_step.slots (Ab G.b)) (F0 m 141 ls []) := by
  intro S v3 H locs ls h hO hS hl
  unfold wX8_step_b141 at h
  refine lv_iload_n C0.1 C0.2.1 dX8_step_141 rfl (lv_at hl 3 rfl) ?_
  refine lv_aload_n C0.1 C0.2.1 dX8_step_142 rfl (lv_at hl 0 rfl) ?_
  obtain ⟨i1, h⟩ := h
  refine g8_32 C0 hO i1 tb_1360 dX8_step_143 ?_
  refine lv_icmp_ge (tgt := 205) C0.1 C0.2.1 dX8_step_146 (by decide) (fun c2 => ?_) (fun c2 => ?_)
  · have h := h.1 c2
    refine lv_iconst (v := 0) C0.1 C0.2.1 dX8_step_205 (by decide) ?_
    refine lv_istore_n C0.1 C0.2.1 dX8_step_206 rfl hl (by decide) rfl (fun ls hl => ?_)
    obtain ⟨n9, h⟩ := h
    exact lX8_step_b207 C0 Y n9 _ _ _ _ _ h hO hS (lv_sub hl [1, 2, 3, 0] rfl)
  · have h := h.2 c2
    refine lv_aload_n C0.1 C0.2.1 dX8_step_149 rfl (lv_at hl 0 rfl) ?_
    obtain ⟨a3, ea3, h⟩ := h
    refine g8_16 C0 hO i1 ea3 tb_1344 dX8_step_150 ?_
    refine lv_iload_n C0.1 C0.2.1 dX8_step_153 rfl (lv_at hl 3 rfl) ?_
    obtain ⟨i4, h⟩ := h
    obtain ⟨e5, h⟩ := h
    refine r_zald C0 hO i4 e5 dX8_step_154 ?_
    refine lv_if_ne (tgt := 199) C0.1 C0.2.1 dX8_step_155 (by decide) (fun c6 => ?_) (fun c6 => ?_)
    · have h := h.1 c6
      exact bX8_step_b199 C0 Y hk141 _ _ _ _ _ h hO hS (lv_sub hl [0, 1, 2, 3] rfl)
    · have h := h.2 c6
      refine lv_aload_n C0.1 C0.2.1 dX8_step_158 rfl (lv_at hl 0 rfl) ?_
      obtain ⟨a7, ea7, h⟩ := h
      refine g8_15 C0 hO i1 ea7 tb_1343 dX8_step_159 ?_
      refine lv_iload_n C0.1 C0.2.1 dX8_step_162 rfl (lv_at hl 3 rfl) ?_
      obtain ⟨i8, h⟩ := h
      obtain ⟨e9, h⟩ := h
      refine r_zald C0 hO i8 e9 dX8_step_163 ?_
      refine lv_if_ne (tgt := 199) C0.1 C0.2.1 dX8_step_164 (by decide) (fun c10 => ?_) (fun c10 => ?_)
      · have h := h.1 c10
        exact bX8_step_b199 C0 Y hk141 _ _ _ _ _ h hO hS (lv_sub hl [0, 1, 2, 3] rfl)
      · have h := h.2 c10
        refine lv_aload_n C0.1 C0.2.1 dX8_step_167 rfl (lv_at hl 0 rfl) ?_
        refine lv_iload_n C0.1 C0.2.1 dX8_step_168 rfl (lv_at hl 3 rfl) ?_
        refine lv_aload_n C0.1 C0.2.1 dX8_step_169 rfl (lv_at hl 0 rfl) ?_
        obtain ⟨a11, ea11, h⟩ := h
        refine g8_10 C0 hO i1 ea11 tb_1338 dX8_step_170 ?_
        refine lv_iload_n C0.1 C0.2.1 dX8_step_173 rfl (lv_at hl 3 rfl) ?_
        obtain ⟨i12, h⟩ := h
        obtain ⟨e13, h⟩ := h
        refine r_iald C0 hO i12 e13 dX8_step_174 ?_
        refine c_V C0 hO hS (mX8_wears h) i1 (by decide) rfl rfl tb_1553 tb_1555 tb_52 tb_81 tb_1556 hd_X8_wears rfl ⟨⟨by decide, by decide⟩, by decide, by decide⟩ hl.1 rfl (Nat.le_of_ble_eq_true rfl) dX8_step_175 (kV (fun S14 H locs h hO hS => ?_))
        refine lv_aload_n C0.1 C0.2.1 dX8_step_178 rfl (lv_at hl 0 rfl) ?_
        obtain ⟨i15, h⟩ := h
        obtain ⟨a16, ea16, h⟩ := h
        refine g8_11 C0 hO i15 ea16 tb_1339 dX8_step_179 ?_
        refine lv_iload_n C0.1 C0.2.1 dX8_step_182 rfl (lv_at hl 3 rfl) ?_
        obtain ⟨i17, h⟩ := h
        obtain ⟨e18, h⟩ := h
        refine r_iald C0 hO i17 e18 dX8_step_183 ?_
        refine lv_iconst (v := (-1)) C0.1 C0.2.1 dX8_step_184 (by decide) ?_
        refine lv_icmp_eq (tgt := 199) C0.1 C0.2.1 dX8_step_185 (by decide) (fun c19 => ?_) (fun c19 => ?_)
        · have h := h.1 c19
          exact bX8_step_b199 C0 Y hk141 _ _ _ _ _ h hO hS (lv_sub hl [0, 1, 2, 3] rfl)
        · have h := h.2 c19
          refine lv_aload_n C0.1 C0.2.1 dX8_step_188 rfl (lv_at hl 0 rfl) ?_
          refine lv_iload_n C0.1 C0.2.1 dX8_step_189 rfl (lv_at hl 3 rfl) ?_
          refine lv_aload_n C0.1 C0.2.1 dX8_step_190 rfl (lv_at hl 0 rfl) ?_
          obtain ⟨a20, ea20, h⟩ := h
          refine g8_11 C0 hO i15 ea20 tb_1339 dX8_step_191 ?_
          refine lv_iload_n C0.1 C0.2.1 dX8_step_194 rfl (lv_at hl 3 rfl) ?_
          obtain ⟨i21, h⟩ := h
          obtain ⟨e22, h⟩ := h
          refine r_iald C0 hO i21 e22 dX8_step_195 ?_
          refine c_V C0 hO hS (mX8_wears h) i15 (by decide) rfl rfl tb_1553 tb_1555 tb_52 tb_81 tb_1556 hd_X8_wears rfl ⟨⟨by decide, by decide⟩, by decide, by decide⟩ hl.1 rfl (Nat.le_of_ble_eq_true rfl) dX8_step_196 (kV (fun S23 H locs h hO hS => ?_))
          exact bX8_step_b199 C0 Y hk141 _ _ _ _ _ h hO hS (lv_sub hl [0, 1, 2, 3] rfl)
set_option maxHeartbeats 4000000 in
set_option maxRecDepth 100000 in
theorem lX8_step_b141 {p : Program} {l : Launch} {e : Env} {s : State} {m : MethodId} {args : Array Value} {below : List Frame} {meth : Method} {c : Code} {G : Gw} {x0 : Nat} {x1 : Int32} {x2 : Int32} {Φ : Hp → Prop} (C0 : Mx p s m c cX8_step 5 args yX8_step.cls G) (Y : My meth none)  : ∀ n9 : Nat, ∀ (S : Hp) (v3 : Int32) (H : Heap) (locs : List Loc) (ls : Array Slot), it2 (wX8_step_b141 x0 x1 x2 Φ) n9 S v3 → Ok G S H → va_S (Ab G.b) s.heap H locs → lv_has ls 5 [(0, .ref x0), (1, .int x1), (2, .int x2), (3, .int v3)] → W p l e rm_X8_step s m args below meth c H locs 0 0 (MQ below (gQ G (PV Φ)) args s rm_X8_step.cells rm_X8_step.slots (Ab G.b)) (F0 m 141 ls []) := by
  intro n9
  induction n9 with
  | zero => intro S v3 H locs ls h; exact (h : False).elim
  | succ n9 ih => intro S v3 H locs ls h hO hS hl; exact bX8_step_b141 C0 Y ih S v3 H locs ls h hO hS hl
def wX8_step_b61 (x0 : Nat) (x1 : Int32) (x2 : Int32) (Φ : Hp → Prop) (k61 : Hp → Int32 → Prop) (S : Hp) (v3 : Int32) : Prop := ((3 < v3 → ∃ n, it2 (wX8_step_b141 x0 x1 x2 Φ) n S 0) ∧ (¬ (3 < v3) → ∃ n, it3 (wX8_step_b69 x0 x1 x2 Φ k61) n S v3 0))
set_option maxHeartbeats 4000000 in
set_option maxRecDepth 100000 in
theorem bX8_step_b61 {p : Program} {l : Launch} {e : Env} {s : State} {m : MethodId} {args : Array Value} {below : List Frame} {meth : Method} {c : Code} {G : Gw} {x0 : Nat} {x1 : Int32} {x2 : Int32} {Φ : Hp → Prop} (C0 : Mx p s m c cX8_step 5 args yX8_step.cls G) (Y : My meth none) {k61 : Hp → Int32 → Prop} (hk61 : ∀ (S : Hp) (v3 : Int32) (H : Heap) (locs : List Loc) (ls : Array Slot), k61 S v3 → Ok G S H → va_S (Ab G.b) s.heap H locs → lv_has ls 5 [(0, .ref x0), (1, .int x1), (2, .int x2), (3, .int v3)] → W p l e rm_X8_step s m args below meth c H locs 0 0 (MQ below (gQ G (PV Φ)) args s rm_X8_step.cells rm_X8_step.slots (Ab G.b)) (F0 m 61 ls [])) : ∀ (S : Hp) (v3 : Int32) (H : Heap) (locs : List Loc) (ls : Array Slot), wX8_step_b61 x0 x1 x2 Φ k61 S v3 → Ok G S H → va_S (Ab G.b) s.heap H locs → lv_has ls 5 [(0, .ref x0), (1, .int x1), (2, .int x2), (3, .int v3)] → W p l e rm_X8_step s m args below meth c H locs 0 0 (MQ below (gQ G (PV Φ)) args s rm_X8_step.cells rm_X8_step.slots (Ab G.b)) (F0 m 61 ls []) := by
  intro S v3 H locs ls h hO hS hl
  unfold wX8_step_b61 at h
  refine lv_iload_n C0.1 C0.2.1 dX8_step_61 rfl (lv_at hl 3 rfl) ?_
  refine lv_iconst (v := 3) C0.1 C0.2.1 dX8_step_62 (by decide) ?_
  refine lv_icmp_gt (tgt := 139) C0.1 C0.2.1 dX8_step_63 (by decide) (fun c1 => ?_) (fun c1 => ?_)
  · have h := h.1 c1
    refine lv_iconst (v := 0) C0.1 C0.2.1 dX8_step_139 (by decide) ?_
    refine lv_istore_n C0.1 C0.2.1 dX8_step_140 rfl hl (by decide) rfl (fun ls hl => ?_)
    obtain ⟨n9, h⟩ := h
    exact lX8_step_b141 C0 Y n9 _ _ _ _ _ h hO hS (lv_sub hl [1, 2, 3, 0] rfl)
  · have h := h.2 c1
    refine lv_iconst (v := 0) C0.1 C0.2.1 dX8_step_66 (by decide) ?_
    refine lv_istore C0.1 C0.2.1 dX8_step_67 hl (by decide) rfl (fun ls hl => ?_)
    obtain ⟨n9, h⟩ := h
    exact lX8_step_b69 C0 Y hk61 n9 _ _ _ _ _ _ h hO hS (lv_sub hl [1, 2, 3, 4, 0] rfl)
set_option maxHeartbeats 4000000 in
set_option maxRecDepth 100000 in
theorem lX8_step_b61 {p : Program} {l : Launch} {e : Env} {s : State} {m : MethodId} {args : Array Value} {below : List Frame} {meth : Method} {c : Code} {G : Gw} {x0 : Nat} {x1 : Int32} {x2 : Int32} {Φ : Hp → Prop} (C0 : Mx p s m c cX8_step 5 args yX8_step.cls G) (Y : My meth none)  : ∀ n9 : Nat, ∀ (S : Hp) (v3 : Int32) (H : Heap) (locs : List Loc) (ls : Array Slot), it2 (wX8_step_b61 x0 x1 x2 Φ) n9 S v3 → Ok G S H → va_S (Ab G.b) s.heap H locs → lv_has ls 5 [(0, .ref x0), (1, .int x1), (2, .int x2), (3, .int v3)] → W p l e rm_X8_step s m args below meth c H locs 0 0 (MQ below (gQ G (PV Φ)) args s rm_X8_step.cells rm_X8_step.slots (Ab G.b)) (F0 m 61 ls []) := by
  intro n9
  induction n9 with
  | zero => intro S v3 H locs ls h; exact (h : False).elim
  | succ n9 ih => intro S v3 H locs ls h hO hS hl; exact bX8_step_b61 C0 Y ih S v3 H locs ls h hO hS hl
def wX8_step_b2 (x0 : Nat) (x1 : Int32) (x2 : Int32) (Φ : Hp → Prop) (k2 : Hp → Int32 → Prop) (S : Hp) (v3 : Int32) : Prop := isA S x0 8 ∧ (((S.FI 543 x0) ≤ v3 → wX8_result S x0 x2.toInt64 24 (fun S3 => isA S3 x0 8 ∧ ∃ a5, S3.FR 514 x0 = some a5 ∧ isA S3 a5 22 ∧ vp_in x1 (S3.N a5) ∧ ∀ S8, S8 = S3.setAJ a5 x1.toNatClampNeg (S3.FJ 547 x0) → ∃ a9, S8.FR 515 x0 = some a9 ∧ isA S8 a9 22 ∧ vp_in x1 (S8.N a9) ∧ ∀ S12, S12 = S8.setAJ a9 x1.toNatClampNeg (S8.FJ 548 x0) → ∃ n, it2 (wX8_step_b61 x0 x1 x2 Φ) n S12 1)) ∧ (¬ ((S.FI 543 x0) ≤ v3) → ∃ a13, S.FR 514 x0 = some a13 ∧ isA S a13 22 ∧ vp_in v3 (S.N a13) ∧ ∀ S16, S16 = S.setAJ a13 v3.toNatClampNeg 0 → ∃ a17, S16.FR 515 x0 = some a17 ∧ isA S16 a17 22 ∧ vp_in v3 (S16.N a17) ∧ ∀ S20, S20 = S16.setAJ a17 v3.toNatClampNeg 1 → k2 S20 (v3 + 1)))
set_option maxHeartbeats 4000000 in
set_option maxRecDepth 100000 in
theorem bX8_step_b2 {p : Program} {l : Launch} {e : Env} {s : State} {m : MethodId} {args : Array Value} {below : List Frame} {meth : Method} {c : Code} {G : Gw} {x0 : Nat} {x1 : Int32} {x2 : Int32} {Φ : Hp → Prop} (C0 : Mx p s m c cX8_step 5 args yX8_step.cls G) (Y : My meth none) {k2 : Hp → Int32 → Prop} (hk2 : ∀ (S : Hp) (v3 : Int32) (H : Heap) (locs : List Loc) (ls : Array Slot), k2 S v3 → Ok G S H → va_S (Ab G.b) s.heap H locs → lv_has ls 5 [(0, .ref x0), (1, .int x1), (2, .int x2), (3, .int v3)] → W p l e rm_X8_step s m args below meth c H locs 0 0 (MQ below (gQ G (PV Φ)) args s rm_X8_step.cells rm_X8_step.slots (Ab G.b)) (F0 m 2 ls [])) : ∀ (S : Hp) (v3 : Int32) (H : Heap) (locs : List Loc) (ls : Array Slot), wX8_step_b2 x0 x1 x2 Φ k2 S v3 → Ok G S H → va_S (Ab G.b) s.heap H locs → lv_has ls 5 [(0, .ref x0), (1, .int x1), (2, .int x2), (3, .int v3)] → W p l e rm_X8_step s m args below meth c H locs 0 0 (MQ below (gQ G (PV Φ)) args s rm_X8_step.cells rm_X8_step.slots (Ab G.b)) (F0 m 2 ls []) := by
  intro S v3 H locs ls h hO hS hl
  unfold wX8_step_b2 at h
  refine lv_iload_n C0.1 C0.2.1 dX8_step_2 rfl (lv_at hl 3 rfl) ?_
  refine lv_aload_n C0.1 C0.2.1 dX8_step_3 rfl (lv_at hl 0 rfl) ?_
  obtain ⟨i1, h⟩ := h
  refine g8_31 C0 hO i1 tb_1359 dX8_step_4 ?_
  refine lv_icmp_ge (tgt := 30) C0.1 C0.2.1 dX8_step_7 (by decide) (fun c2 => ?_) (fun c2 => ?_)
  · have h := h.1 c2
    refine lv_aload_n C0.1 C0.2.1 dX8_step_30 rfl (lv_at hl 0 rfl) ?_
    refine lv_iload_n C0.1 C0.2.1 dX8_step_31 rfl (lv_at hl 2 rfl) ?_
    refine lv_i2l C0.1 C0.2.1 dX8_step_32 rfl ?_
    refine lv_ldc2 (v := 24) C0.1 C0.2.1 C0.2.2.2.1 (C0.2.2.2.2.1 _ tb_1531) dX8_step_33 ?_
    refine c_V C0 hO hS (mX8_result h) i1 (by decide) rfl rfl tb_1532 tb_1534 tb_48 tb_81 tb_1535 hd_X8_result rfl ⟨⟨by decide, by decide⟩, by decide, by decide⟩ hl.1 rfl (Nat.le_of_ble_eq_true rfl) dX8_step_36 (kV (fun S3 H locs h hO hS => ?_))
    refine lv_aload_n C0.1 C0.2.1 dX8_step_39 rfl (lv_at hl 0 rfl) ?_
    obtain ⟨i4, h⟩ := h
    obtain ⟨a5, ea5, h⟩ := h
    refine g8_2 C0 hO i4 ea5 tb_1330 dX8_step_40 ?_
    refine lv_iload_n C0.1 C0.2.1 dX8_step_43 rfl (lv_at hl 1 rfl) ?_
    refine lv_aload_n C0.1 C0.2.1 dX8_step_44 rfl (lv_at hl 0 rfl) ?_
    refine g8_35 C0 hO i4 tb_1363 dX8_step_45 ?_
    obtain ⟨i6, h⟩ := h
    obtain ⟨e7, h⟩ := h
    refine r_last C0 hO hS i6 e7 dX8_step_48 (fun H locs hO hS => ?_)
    have h := h _ rfl
    refine lv_aload_n C0.1 C0.2.1 dX8_step_49 rfl (lv_at hl 0 rfl) ?_
    obtain ⟨a9, ea9, h⟩ := h
    refine g8_3 C0 hO (sA_AJ i4) ea9 tb_1331 dX8_step_50 ?_
    refine lv_iload_n C0.1 C0.2.1 dX8_step_53 rfl (lv_at hl 1 rfl) ?_
    refine lv_aload_n C0.1 C0.2.1 dX8_step_54 rfl (lv_at hl 0 rfl) ?_
    refine g8_36 C0 hO (sA_AJ i4) tb_1364 dX8_step_55 ?_
    obtain ⟨i10, h⟩ := h
    obtain ⟨e11, h⟩ := h
    refine r_last C0 hO hS i10 e11 dX8_step_58 (fun H locs hO hS => ?_)
    have h := h _ rfl
    refine lv_iconst (v := 1) C0.1 C0.2.1 dX8_step_59 (by decide) ?_
    refine lv_istore_n C0.1 C0.2.1 dX8_step_60 rfl hl (by decide) rfl (fun ls hl => ?_)
    obtain ⟨n9, h⟩ := h
    exact lX8_step_b61 C0 Y n9 _ _ _ _ _ h hO hS (lv_sub hl [1, 2, 3, 0] rfl)
  · have h := h.2 c2
    refine lv_aload_n C0.1 C0.2.1 dX8_step_10 rfl (lv_at hl 0 rfl) ?_
    obtain ⟨a13, ea13, h⟩ := h
    refine g8_2 C0 hO i1 ea13 tb_1330 dX8_step_11 ?_
    refine lv_iload_n C0.1 C0.2.1 dX8_step_14 rfl (lv_at hl 3 rfl) ?_
    refine lv_lconst (v := 0) C0.1 C0.2.1 dX8_step_15 (by decide) ?_
    obtain ⟨i14, h⟩ := h
    obtain ⟨e15, h⟩ := h
    refine r_last C0 hO hS i14 e15 dX8_step_16 (fun H locs hO hS => ?_)
    have h := h _ rfl
    refine lv_aload_n C0.1 C0.2.1 dX8_step_17 rfl (lv_at hl 0 rfl) ?_
    obtain ⟨a17, ea17, h⟩ := h
    refine g8_3 C0 hO (sA_AJ i1) ea17 tb_1331 dX8_step_18 ?_
    refine lv_iload_n C0.1 C0.2.1 dX8_step_21 rfl (lv_at hl 3 rfl) ?_
    refine lv_lconst (v := 1) C0.1 C0.2.1 dX8_step_22 (by decide) ?_
    obtain ⟨i18, h⟩ := h
    obtain ⟨e19, h⟩ := h
    refine r_last C0 hO hS i18 e19 dX8_step_23 (fun H locs hO hS => ?_)
    have h := h _ rfl
    refine lv_iinc (v := _ + 1) C0.1 C0.2.1 dX8_step_24 hl (k := 3) rfl rfl (by decide) rfl (fun ls hl => ?_)
    refine lv_goto (tgt := 2) C0.1 C0.2.1 dX8_step_27 (by decide) ?_
    exact hk2 _ _ _ _ _ h hO hS (lv_sub hl [1, 2, 3, 0] rfl)
set_option maxHeartbeats 4000000 in
set_option maxRecDepth 100000 in
theorem lX8_step_b2 {p : Program} {l : Launch} {e : Env} {s : State} {m : MethodId} {args : Array Value} {below : List Frame} {meth : Method} {c : Code} {G : Gw} {x0 : Nat} {x1 : Int32} {x2 : Int32} {Φ : Hp → Prop} (C0 : Mx p s m c cX8_step 5 args yX8_step.cls G) (Y : My meth none)  : ∀ n9 : Nat, ∀ (S : Hp) (v3 : Int32) (H : Heap) (locs : List Loc) (ls : Array Slot), it2 (wX8_step_b2 x0 x1 x2 Φ) n9 S v3 → Ok G S H → va_S (Ab G.b) s.heap H locs → lv_has ls 5 [(0, .ref x0), (1, .int x1), (2, .int x2), (3, .int v3)] → W p l e rm_X8_step s m args below meth c H locs 0 0 (MQ below (gQ G (PV Φ)) args s rm_X8_step.cells rm_X8_step.slots (Ab G.b)) (F0 m 2 ls []) := by
  intro n9
  induction n9 with
  | zero => intro S v3 H locs ls h; exact (h : False).elim
  | succ n9 ih => intro S v3 H locs ls h hO hS hl; exact bX8_step_b2 C0 Y ih S v3 H locs ls h hO hS hl
def wX8_step_b0 (x0 : Nat) (x1 : Int32) (x2 : Int32) (Φ : Hp → Prop) (S : Hp) : Prop := ∃ n, it2 (wX8_step_b2 x0 x1 x2 Φ) n S 0
set_option maxHeartbeats 4000000 in
set_option maxRecDepth 100000 in
theorem bX8_step_b0 {p : Program} {l : Launch} {e : Env} {s : State} {m : MethodId} {args : Array Value} {below : List Frame} {meth : Method} {c : Code} {G : Gw} {x0 : Nat} {x1 : Int32} {x2 : Int32} {Φ : Hp → Prop} (C0 : Mx p s m c cX8_step 5 args yX8_step.cls G) (Y : My meth none)  : ∀ (S : Hp) (H : Heap) (locs : List Loc) (ls : Array Slot), wX8_step_b0 x0 x1 x2 Φ S → Ok G S H → va_S (Ab G.b) s.heap H locs → lv_has ls 5 [(0, .ref x0), (1, .int x1), (2, .int x2)] → W p l e rm_X8_step s m args below meth c H locs 0 0 (MQ below (gQ G (PV Φ)) args s rm_X8_step.cells rm_X8_step.slots (Ab G.b)) (F0 m 0 ls []) := by
  intro S H locs ls h hO hS hl
  unfold wX8_step_b0 at h
  refine lv_iconst (v := 0) C0.1 C0.2.1 dX8_step_0 (by decide) ?_
  refine lv_istore_n C0.1 C0.2.1 dX8_step_1 rfl hl (by decide) rfl (fun ls hl => ?_)
  obtain ⟨n9, h⟩ := h
  exact lX8_step_b2 C0 Y n9 _ _ _ _ _ h hO hS (lv_sub hl [1, 2, 3, 0] rfl)
def wX8_step (S : Hp) (x0 : Nat) (x1 : Int32) (x2 : Int32) (Φ : Hp → Prop) : Prop := wX8_step_b0 x0 x1 x2 Φ S
set_option maxRecDepth 100000 in
theorem mX8_step {l : Launch} {G : Gw} {S : Hp} {x0 : Nat} {x1 : Int32} {x2 : Int32} {Φ : Hp → Prop} (h : wX8_step S x0 x1 x2 Φ) : gM l yX8_step cX8_step 5 none rm_X8_step [.ref x0, .int x1, .int x2] G S (PV Φ) := by
  unfold gM
  refine Met.ofW (cc := cX8_step) (maxL := 5) (ret := none) (by decide) rfl ?_
  intro p e s m args below meth c s₁ B hml hv
  obtain ⟨rfl, hw⟩ := hv
  obtain ⟨C0, Y, hO⟩ := mx_of B hml hw
  have hS : va_S (Ab G.b) s.heap s.heap [] := va_S.rf
  have hl := lv_entry ([.ref x0, .int x1, .int x2]) (n := 5) (Nat.le_of_ble_eq_true rfl)
  rw [lg_entry_eq]
  generalize (lg_sl ([.ref x0, .int x1, .int x2]) ++ List.replicate (5 - (lg_sl ([.ref x0, .int x1, .int x2])).length) Slot.unset).toArray = ls at hl ⊢
  have hl : lv_has ls 5 [(0, .ref x0), (1, .int x1), (2, .int x2)] := hl
  exact bX8_step_b0 C0 Y S _ _ _ h hO hS hl
