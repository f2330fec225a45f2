def rm_X5_init : Room := { frames := 1, cells := 0, slots := 0, locals := 12 }
def wX5_init_b0 (x0 : Nat) (x1 : Int32) (x2 : Int32) (x3 : Int32) (x4 : Int32) (x5 : Int32) (x6 : Int32) (x7 : Int32) (Φ : Hp → Prop) (S : Hp) : Prop := isA S x0 5 ∧ ∀ S2, S2 = S.setFI 327 x0 1 → ∀ S3, S3 = S2.setFI 320 x0 x1 → nc x2 ∧ ∀ S5, S5 = S3.setFI 321 x0 x2 → ∀ S6, S6 = S5.setFI 322 x0 x3 → ∀ S7, S7 = S6.setFI 323 x0 x4 → ∀ S8, S8 = S7.setFI 324 x0 x5 → ∀ S9, S9 = S8.setFI 325 x0 x6 → ∀ S10, S10 = S9.setFI 326 x0 x7 → Φ S10
set_option maxHeartbeats 4000000 in
set_option maxRecDepth 100000 in
theorem bX5_init_b0 {p : Program} {l : Launch} {e : Env} {s : State} {m : MethodId} {args : Array Value} {below : List Frame} {meth : Method} {c : Code} {G : Gw} {x0 : Nat} {x1 : Int32} {x2 : Int32} {x3 : Int32} {x4 : Int32} {x5 : Int32} {x6 : Int32} {x7 : Int32} {Φ : Hp → Prop} (C0 : Mx p s m c cX5_init 8 args yX5_init.cls G) (Y : My meth none) (hin9 : meth.name = "<init>")  : ∀ (S : Hp) (H : Heap) (locs : List Loc) (ls : Array Slot), wX5_init_b0 x0 x1 x2 x3 x4 x5 x6 x7 Φ S → Ok G S H → va_S (Ab G.b) s.heap H locs → lv_has ls 8 [(0, .ref x0), (1, .int x1), (2, .int x2), (3, .int x3), (4, .int x4), (5, .int x5), (6, .int x6), (7, .int x7)] → W p l e rm_X5_init s m args below meth c H locs 0 0 (MQ below (gQ G (PV Φ)) args s rm_X5_init.cells rm_X5_init.slots (Ab G.b)) (F0 m 0 ls []) := by
  intro S H locs ls h hO hS hl
  unfold wX5_init_b0 at h
  refine lv_aload_n C0.1 C0.2.1 dX5_init_0 rfl (lv_at hl 0 rfl) ?_
  refine W.objInit C0.1 C0.2.1 C0.2.2.2.1 (C0.2.2.2.2.1 _ tb_594) (C0.2.2.2.2.1 _ tb_58) (C0.2.2.2.2.1 _ tb_59) rfl (hl.1.trans C0.2.2.1.symm) rfl dX5_init_1 (Nat.le_of_ble_eq_true rfl) (Nat.le_of_ble_eq_true rfl) ?_
  refine W.eq (g2 := F0 _ 4 _ _) rfl ?_
  refine lv_aload_n C0.1 C0.2.1 dX5_init_4 rfl (lv_at hl 0 rfl) ?_
  refine lv_iconst (v := 1) C0.1 C0.2.1 dX5_init_5 (by decide) ?_
  obtain ⟨i1, h⟩ := h
  refine p5_7 C0 hO hS i1 ⟨rfl, rfl⟩ tb_612 dX5_init_6 (fun H locs hO hS => ?_)
  have h := h _ rfl
  refine lv_aload_n C0.1 C0.2.1 dX5_init_9 rfl (lv_at hl 0 rfl) ?_
  refine lv_iload_n C0.1 C0.2.1 dX5_init_10 rfl (lv_at hl 1 rfl) ?_
  refine p5_0 C0 hO hS (sA_FI i1) hin9 rfl tb_595 dX5_init_11 (fun H locs hO hS => ?_)
  have h := h _ rfl
  refine lv_aload_n C0.1 C0.2.1 dX5_init_14 rfl (lv_at hl 0 rfl) ?_
  refine lv_iload_n C0.1 C0.2.1 dX5_init_15 rfl (lv_at hl 2 rfl) ?_
  obtain ⟨e4, h⟩ := h
  refine p5_1 C0 hO hS (sA_FI (sA_FI i1)) e4 hin9 rfl tb_598 dX5_init_16 (fun H locs hO hS => ?_)
  have h := h _ rfl
  refine lv_aload_n C0.1 C0.2.1 dX5_init_19 rfl (lv_at hl 0 rfl) ?_
  refine lv_iload_n C0.1 C0.2.1 dX5_init_20 rfl (lv_at hl 3 rfl) ?_
  refine p5_2 C0 hO hS (sA_FI (sA_FI (sA_FI i1))) hin9 rfl tb_600 dX5_init_21 (fun H locs hO hS => ?_)
  have h := h _ rfl
  refine lv_aload_n C0.1 C0.2.1 dX5_init_24 rfl (lv_at hl 0 rfl) ?_
  refine lv_iload C0.1 C0.2.1 dX5_init_25 (lv_at hl 4 rfl) ?_
  refine p5_3 C0 hO hS (sA_FI (sA_FI (sA_FI (sA_FI i1)))) hin9 rfl tb_603 dX5_init_27 (fun H locs hO hS => ?_)
  have h := h _ rfl
  refine lv_aload_n C0.1 C0.2.1 dX5_init_30 rfl (lv_at hl 0 rfl) ?_
  refine lv_iload C0.1 C0.2.1 dX5_init_31 (lv_at hl 5 rfl) ?_
  refine p5_4 C0 hO hS (sA_FI (sA_FI (sA_FI (sA_FI (sA_FI i1))))) hin9 rfl tb_606 dX5_init_33 (fun H locs hO hS => ?_)
  have h := h _ rfl
  refine lv_aload_n C0.1 C0.2.1 dX5_init_36 rfl (lv_at hl 0 rfl) ?_
  refine lv_iload C0.1 C0.2.1 dX5_init_37 (lv_at hl 6 rfl) ?_
  refine p5_5 C0 hO hS (sA_FI (sA_FI (sA_FI (sA_FI (sA_FI (sA_FI i1)))))) hin9 rfl tb_609 dX5_init_39 (fun H locs hO hS => ?_)
  have h := h _ rfl
  refine lv_aload_n C0.1 C0.2.1 dX5_init_42 rfl (lv_at hl 0 rfl) ?_
  refine lv_iload C0.1 C0.2.1 dX5_init_43 (lv_at hl 7 rfl) ?_
  refine p5_6 C0 hO hS (sA_FI (sA_FI (sA_FI (sA_FI (sA_FI (sA_FI (sA_FI i1))))))) hin9 rfl tb_611 dX5_init_45 (fun H locs hO hS => ?_)
  have h := h _ rfl
  exact e_V C0 Y hO hS h (Nat.le_refl _) (Nat.le_refl _) dX5_init_48
def wX5_init (S : Hp) (x0 : Nat) (x1 : Int32) (x2 : Int32) (x3 : Int32) (x4 : Int32) (x5 : Int32) (x6 : Int32) (x7 : Int32) (Φ : Hp → Prop) : Prop := wX5_init_b0 x0 x1 x2 x3 x4 x5 x6 x7 Φ S
set_option maxRecDepth 100000 in
theorem mX5_init {l : Launch} {G : Gw} {S : Hp} {x0 : Nat} {x1 : Int32} {x2 : Int32} {x3 : Int32} {x4 : Int32} {x5 : Int32} {x6 : Int32} {x7 : Int32} {Φ : Hp → Prop} (h : wX5_init S x0 x1 x2 x3 x4 x5 x6 x7 Φ) : gM l yX5_init cX5_init 8 none rm_X5_init [.ref x0, .int x1, .int x2, .int x3, .int x4, .int x5, .int x6, .int x7] G S (PV Φ) := by
  unfold gM
  refine Met.ofW (cc := cX5_init) (maxL := 8) (ret := none) (by decide) rfl ?_
  intro p e s m args below meth c s₁ B hml hv
  obtain ⟨rfl, hw⟩ := hv
  obtain ⟨C0, Y, hO⟩ := mx_of B hml hw
  have hS : va_S (Ab G.b) s.heap s.heap [] := va_S.rf
  have hin9 : meth.name = "<init>" := (name_of_methodNamed B.named B.method).1
  have hl := lv_entry ([.ref x0, .int x1, .int x2, .int x3, .int x4, .int x5, .int x6, .int x7]) (n := 8) (Nat.le_of_ble_eq_true rfl)
  rw [lg_entry_eq]
  generalize (lg_sl ([.ref x0, .int x1, .int x2, .int x3, .int x4, .int x5, .int x6, .int x7]) ++ List.replicate (8 - (lg_sl ([.ref x0, .int x1, .int x2, .int x3, .int x4, .int x5, .int x6, .int x7])).length) Slot.unset).toArray = ls at hl ⊢
  have hl : lv_has ls 8 [(0, .ref x0), (1, .int x1), (2, .int x2), (3, .int x3), (4, .int x4), (5, .int x5), (6, .int x6), (7, .int x7)] := hl
  exact bX5_init_b0 C0 Y hin9 S _ _ _ h hO hS hl

def rm_X5_hasSecond : Room := { frames := 0, cells := 0, slots := 0, locals := 0 }
def wX5_hasSecond_b0 (x0 : Nat) (Φ : Hp → Int32 → Prop) (S : Hp) : Prop := isA S x0 5 ∧ (((S.FI 323 x0) < 0 → Φ S 0) ∧ (¬ ((S.FI 323 x0) < 0) → Φ S 1))
set_option maxHeartbeats 4000000 in
set_option maxRecDepth 100000 in
theorem bX5_hasSecond_b0 {p : Program} {l : Launch} {e : Env} {s : State} {m : MethodId} {args : Array Value} {below : List Frame} {meth : Method} {c : Code} {G : Gw} {x0 : Nat} {Φ : Hp → Int32 → Prop} (C0 : Mx p s m c cX5_hasSecond 1 args yX5_hasSecond.cls G) (Y : My meth (some .boolean))  : ∀ (S : Hp) (H : Heap) (locs : List Loc) (ls : Array Slot), wX5_hasSecond_b0 x0 Φ S → Ok G S H → va_S (Ab G.b) s.heap H locs → lv_has ls 1 [(0, .ref x0)] → W p l e rm_X5_hasSecond s m args below meth c H locs 0 0 (MQ below (gQ G (PI Φ)) args s rm_X5_hasSecond.cells rm_X5_hasSecond.slots (Ab G.b)) (F0 m 0 ls []) := by
  intro S H locs ls h hO hS hl
  unfold wX5_hasSecond_b0 at h
  refine lv_aload_n C0.1 C0.2.1 dX5_hasSecond_0 rfl (lv_at hl 0 rfl) ?_
  obtain ⟨i1, h⟩ := h
  refine g5_3 C0 hO i1 tb_603 dX5_hasSecond_1 ?_
  refine lv_if_lt (tgt := 11) C0.1 C0.2.1 dX5_hasSecond_4 (by decide) (fun c2 => ?_) (fun c2 => ?_)
  · have h := h.1 c2
    refine lv_iconst (v := 0) C0.1 C0.2.1 dX5_hasSecond_11 (by decide) ?_
    exact e_Z C0 Y hO hS rfl h (Nat.le_refl _) (Nat.le_refl _) dX5_hasSecond_12
  · have h := h.2 c2
    refine lv_iconst (v := 1) C0.1 C0.2.1 dX5_hasSecond_7 (by decide) ?_
    refine lv_goto (tgt := 12) C0.1 C0.2.1 dX5_hasSecond_8 (by decide) ?_
    exact e_Z C0 Y hO hS rfl h (Nat.le_refl _) (Nat.le_refl _) dX5_hasSecond_12
def wX5_hasSecond (S : Hp) (x0 : Nat) (Φ : Hp → Int32 → Prop) : Prop := wX5_hasSecond_b0 x0 Φ S
set_option maxRecDepth 100000 in
theorem mX5_hasSecond {l : Launch} {G : Gw} {S : Hp} {x0 : Nat} {Φ : Hp → Int32 → Prop} (h : wX5_hasSecond S x0 Φ) : gM l yX5_hasSecond cX5_hasSecond 1 (some .boolean) rm_X5_hasSecond [.ref x0] G S (PI Φ) := by
  unfold gM
  refine Met.ofW (cc := cX5_hasSecond) (maxL := 1) (ret := (some .boolean)) (by decide) rfl ?_
  intro p e s m args below meth c s₁ B hml hv
  obtain ⟨rfl, hw⟩ := hv
  obtain ⟨C0, Y, hO⟩ := mx_of B hml hw
  have hS : va_S (Ab G.b) s.heap s.heap [] := va_S.rf
  have hl := lv_entry ([.ref x0]) (n := 1) (Nat.le_of_ble_eq_true rfl)
  rw [lg_entry_eq]
  generalize (lg_sl ([.ref x0]) ++ List.replicate (1 - (lg_sl ([.ref x0])).length) Slot.unset).toArray = ls at hl ⊢
  have hl : lv_has ls 1 [(0, .ref x0)] := hl
  exact bX5_hasSecond_b0 C0 Y S _ _ _ h hO hS hl

def rm_X5_doesAct : Room := { frames := 0, cells := 0, slots := 0, locals := 0 }
def wX5_doesAct_b0 (x0 : Nat) (Φ : Hp → Int32 → Prop) (S : Hp) : Prop := isA S x0 5 ∧ (((S.FI 327 x0) = 0 → Φ S 0) ∧ (¬ ((S.FI 327 x0) = 0) → ((¬ (S.FI 328 x0) = 0 → Φ S 0) ∧ ((S.FI 328 x0) = 0 → Φ S 1))))
set_option maxHeartbeats 4000000 in
set_option maxRecDepth 100000 in
theorem bX5_doesAct_b0 {p : Program} {l : Launch} {e : Env} {s : State} {m : MethodId} {args : Array Value} {below : List Frame} {meth : Method} {c : Code} {G : Gw} {x0 : Nat} {Φ : Hp → Int32 → Prop} (C0 : Mx p s m c cX5_doesAct 1 args yX5_doesAct.cls G) (Y : My meth (some .boolean))  : ∀ (S : Hp) (H : Heap) (locs : List Loc) (ls : Array Slot), wX5_doesAct_b0 x0 Φ S → Ok G S H → va_S (Ab G.b) s.heap H locs → lv_has ls 1 [(0, .ref x0)] → W p l e rm_X5_doesAct s m args below meth c H locs 0 0 (MQ below (gQ G (PI Φ)) args s rm_X5_doesAct.cells rm_X5_doesAct.slots (Ab G.b)) (F0 m 0 ls []) := by
  intro S H locs ls h hO hS hl
  unfold wX5_doesAct_b0 at h
  refine lv_aload_n C0.1 C0.2.1 dX5_doesAct_0 rfl (lv_at hl 0 rfl) ?_
  obtain ⟨i1, h⟩ := h
  refine g5_7 C0 hO i1 tb_612 dX5_doesAct_1 ?_
  refine lv_if_eq (tgt := 18) C0.1 C0.2.1 dX5_doesAct_4 (by decide) (fun c2 => ?_) (fun c2 => ?_)
  · have h := h.1 c2
    refine lv_iconst (v := 0) C0.1 C0.2.1 dX5_doesAct_18 (by decide) ?_
    exact e_Z C0 Y hO hS rfl h (Nat.le_refl _) (Nat.le_refl _) dX5_doesAct_19
  · have h := h.2 c2
    refine lv_aload_n C0.1 C0.2.1 dX5_doesAct_7 rfl (lv_at hl 0 rfl) ?_
    refine g5_8 C0 hO i1 tb_613 dX5_doesAct_8 ?_
    refine lv_if_ne (tgt := 18) C0.1 C0.2.1 dX5_doesAct_11 (by decide) (fun c3 => ?_) (fun c3 => ?_)
    · have h := h.1 c3
      refine lv_iconst (v := 0) C0.1 C0.2.1 dX5_doesAct_18 (by decide) ?_
      exact e_Z C0 Y hO hS rfl h (Nat.le_refl _) (Nat.le_refl _) dX5_doesAct_19
    · have h := h.2 c3
      refine lv_iconst (v := 1) C0.1 C0.2.1 dX5_doesAct_14 (by decide) ?_
      refine lv_goto (tgt := 19) C0.1 C0.2.1 dX5_doesAct_15 (by decide) ?_
      exact e_Z C0 Y hO hS rfl h (Nat.le_refl _) (Nat.le_refl _) dX5_doesAct_19
def wX5_doesAct (S : Hp) (x0 : Nat) (Φ : Hp → Int32 → Prop) : Prop := wX5_doesAct_b0 x0 Φ S
set_option maxRecDepth 100000 in
theorem mX5_doesAct {l : Launch} {G : Gw} {S : Hp} {x0 : Nat} {Φ : Hp → Int32 → Prop} (h : wX5_doesAct S x0 Φ) : gM l yX5_doesAct cX5_doesAct 1 (some .boolean) rm_X5_doesAct [.ref x0] G S (PI Φ) := by
  unfold gM
  refine Met.ofW (cc := cX5_doesAct) (maxL := 1) (ret := (some .boolean)) (by decide) rfl ?_
  intro p e s m args below meth c s₁ B hml hv
  obtain ⟨rfl, hw⟩ := hv
  obtain ⟨C0, Y, hO⟩ := mx_of B hml hw
  have hS : va_S (Ab G.b) s.heap s.heap [] := va_S.rf
  have hl := lv_entry ([.ref x0]) (n := 1) (Nat.le_of_ble_eq_true rfl)
  rw [lg_entry_eq]
  generalize (lg_sl ([.ref x0]) ++ List.replicate (1 - (lg_sl ([.ref x0])).length) Slot.unset).toArray = ls at hl ⊢
  have hl : lv_has ls 1 [(0, .ref x0)] := hl
  exact bX5_doesAct_b0 C0 Y S _ _ _ h hO hS hl

def rm_X5_over : Room := { frames := 0, cells := 0, slots := 0, locals := 0 }
def wX5_over_b33 (x0 : Nat) (Φ : Hp → Int32 → Prop) (S : Hp) : Prop := isA S x0 5 ∧ Φ S (S.FI 325 x0)
set_option maxHeartbeats 4000000 in
set_option maxRecDepth 100000 in
theorem bX5_over_b33 {p : Program} {l : Launch} {e : Env} {s : State} {m : MethodId} {args : Array Value} {below : List Frame} {meth : Method} {c : Code} {G : Gw} {x0 : Nat} {Φ : Hp → Int32 → Prop} (C0 : Mx p s m c cX5_over 1 args yX5_over.cls G) (Y : My meth (some .int))  : ∀ (S : Hp) (H : Heap) (locs : List Loc) (ls : Array Slot), wX5_over_b33 x0 Φ S → Ok G S H → va_S (Ab G.b) s.heap H locs → lv_has ls 1 [(0, .ref x0)] → W p l e rm_X5_over s m args below meth c H locs 0 0 (MQ below (gQ G (PI Φ)) args s rm_X5_over.cells rm_X5_over.slots (Ab G.b)) (F0 m 33 ls []) := by
  intro S H locs ls h hO hS hl
  unfold wX5_over_b33 at h
  refine lv_aload_n C0.1 C0.2.1 dX5_over_33 rfl (lv_at hl 0 rfl) ?_
  obtain ⟨i1, h⟩ := h
  refine g5_5 C0 hO i1 tb_609 dX5_over_34 ?_
  refine lv_goto (tgt := 41) C0.1 C0.2.1 dX5_over_37 (by decide) ?_
  exact e_I C0 Y hO hS h (Nat.le_refl _) (Nat.le_refl _) dX5_over_41
def wX5_over_b0 (x0 : Nat) (Φ : Hp → Int32 → Prop) (S : Hp) : Prop := isA S x0 5 ∧ ((¬ (S.FI 321 x0) = 103 → (((S.FI 321 x0) = 105 → wX5_over_b33 x0 Φ S) ∧ (¬ ((S.FI 321 x0) = 105) → ((¬ (S.FI 321 x0) = 112 → Φ S 1) ∧ ((S.FI 321 x0) = 112 → wX5_over_b33 x0 Φ S))))) ∧ ((S.FI 321 x0) = 103 → Φ S (-(S.FI 325 x0))))
set_option maxHeartbeats 4000000 in
set_option maxRecDepth 100000 in
theorem bX5_over_b0 {p : Program} {l : Launch} {e : Env} {s : State} {m : MethodId} {args : Array Value} {below : List Frame} {meth : Method} {c : Code} {G : Gw} {x0 : Nat} {Φ : Hp → Int32 → Prop} (C0 : Mx p s m c cX5_over 1 args yX5_over.cls G) (Y : My meth (some .int))  : ∀ (S : Hp) (H : Heap) (locs : List Loc) (ls : Array Slot), wX5_over_b0 x0 Φ S → Ok G S H → va_S (Ab G.b) s.heap H locs → lv_has ls 1 [(0, .ref x0)] → W p l e rm_X5_over s m args below meth c H locs 0 0 (MQ below (gQ G (PI Φ)) args s rm_X5_over.cells rm_X5_over.slots (Ab G.b)) (F0 m 0 ls []) := by
  intro S H locs ls h hO hS hl
  unfold wX5_over_b0 at h
  refine lv_aload_n C0.1 C0.2.1 dX5_over_0 rfl (lv_at hl 0 rfl) ?_
  obtain ⟨i1, h⟩ := h
  refine g5_1 C0 hO i1 tb_598 dX5_over_1 ?_
  refine lv_bipush (v := 103) C0.1 C0.2.1 dX5_over_4 (by decide) ?_
  refine lv_icmp_ne (tgt := 15) C0.1 C0.2.1 dX5_over_6 (by decide) (fun c2 => ?_) (fun c2 => ?_)
  · have h := h.1 c2
    refine lv_aload_n C0.1 C0.2.1 dX5_over_15 rfl (lv_at hl 0 rfl) ?_
    refine g5_1 C0 hO i1 tb_598 dX5_over_16 ?_
    refine lv_bipush (v := 105) C0.1 C0.2.1 dX5_over_19 (by decide) ?_
    refine lv_icmp_eq (tgt := 33) C0.1 C0.2.1 dX5_over_21 (by decide) (fun c3 => ?_) (fun c3 => ?_)
    · have h := h.1 c3
      exact bX5_over_b33 C0 Y _ _ _ _ h hO hS (lv_sub hl [0] rfl)
    · have h := h.2 c3
      refine lv_aload_n C0.1 C0.2.1 dX5_over_24 rfl (lv_at hl 0 rfl) ?_
      refine g5_1 C0 hO i1 tb_598 dX5_over_25 ?_
      refine lv_bipush (v := 112) C0.1 C0.2.1 dX5_over_28 (by decide) ?_
      refine lv_icmp_ne (tgt := 40) C0.1 C0.2.1 dX5_over_30 (by decide) (fun c4 => ?_) (fun c4 => ?_)
      · have h := h.1 c4
        refine lv_iconst (v := 1) C0.1 C0.2.1 dX5_over_40 (by decide) ?_
        exact e_I C0 Y hO hS h (Nat.le_refl _) (Nat.le_refl _) dX5_over_41
      · have h := h.2 c4
        exact bX5_over_b33 C0 Y _ _ _ _ h hO hS (lv_sub hl [0] rfl)
  · have h := h.2 c2
    refine lv_aload_n C0.1 C0.2.1 dX5_over_9 rfl (lv_at hl 0 rfl) ?_
    refine g5_5 C0 hO i1 tb_609 dX5_over_10 ?_
    refine lv_ineg C0.1 C0.2.1 dX5_over_13 ?_
    exact e_I C0 Y hO hS h (Nat.le_refl _) (Nat.le_refl _) dX5_over_14
def wX5_over (S : Hp) (x0 : Nat) (Φ : Hp → Int32 → Prop) : Prop := wX5_over_b0 x0 Φ S
set_option maxRecDepth 100000 in
theorem mX5_over {l : Launch} {G : Gw} {S : Hp} {x0 : Nat} {Φ : Hp → Int32 → Prop} (h : wX5_over S x0 Φ) : gM l yX5_over cX5_over 1 (some .int) rm_X5_over [.ref x0] G S (PI Φ) := by
  unfold gM
  refine Met.ofW (cc := cX5_over) (maxL := 1) (ret := (some .int)) (by decide) rfl ?_
  intro p e s m args below meth c s₁ B hml hv
  obtain ⟨rfl, hw⟩ := hv
  obtain ⟨C0, Y, hO⟩ := mx_of B hml hw
  have hS : va_S (Ab G.b) s.heap s.heap [] := va_S.rf
  have hl := lv_entry ([.ref x0]) (n := 1) (Nat.le_of_ble_eq_true rfl)
  rw [lg_entry_eq]
  generalize (lg_sl ([.ref x0]) ++ List.replicate (1 - (lg_sl ([.ref x0])).length) Slot.unset).toArray = ls at hl ⊢
  have hl : lv_has ls 1 [(0, .ref x0)] := hl
  exact bX5_over_b0 C0 Y S _ _ _ h hO hS hl

def rm_X5_under : Room := { frames := 0, cells := 0, slots := 0, locals := 0 }
def wX5_under_b0 (x0 : Nat) (Φ : Hp → Int32 → Prop) (S : Hp) : Prop := isA S x0 5 ∧ (((S.FI 321 x0) = 103 → Φ S (S.FI 326 x0)) ∧ (¬ ((S.FI 321 x0) = 103) → ((¬ (S.FI 321 x0) = 105 → ((¬ (S.FI 321 x0) = 112 → ((¬ (S.FI 321 x0) = 118 → Φ S 1) ∧ ((S.FI 321 x0) = 118 → Φ S (S.FI 325 x0)))) ∧ ((S.FI 321 x0) = 112 → Φ S ((S.FI 325 x0) + (S.FI 326 x0))))) ∧ ((S.FI 321 x0) = 105 → Φ S (S.FI 326 x0)))))
set_option maxHeartbeats 4000000 in
set_option maxRecDepth 100000 in
theorem bX5_under_b0 {p : Program} {l : Launch} {e : Env} {s : State} {m : MethodId} {args : Array Value} {below : List Frame} {meth : Method} {c : Code} {G : Gw} {x0 : Nat} {Φ : Hp → Int32 → Prop} (C0 : Mx p s m c cX5_under 1 args yX5_under.cls G) (Y : My meth (some .int))  : ∀ (S : Hp) (H : Heap) (locs : List Loc) (ls : Array Slot), wX5_under_b0 x0 Φ S → Ok G S H → va_S (Ab G.b) s.heap H locs → lv_has ls 1 [(0, .ref x0)] → W p l e rm_X5_under s m args below meth c H locs 0 0 (MQ below (gQ G (PI Φ)) args s rm_X5_under.cells rm_X5_under.slots (Ab G.b)) (F0 m 0 ls []) := by
  intro S H locs ls h hO hS hl
  unfold wX5_under_b0 at h
  refine lv_aload_n C0.1 C0.2.1 dX5_under_0 rfl (lv_at hl 0 rfl) ?_
  obtain ⟨i1, h⟩ := h
  refine g5_1 C0 hO i1 tb_598 dX5_under_1 ?_
  refine lv_bipush (v := 103) C0.1 C0.2.1 dX5_under_4 (by decide) ?_
  refine lv_icmp_eq (tgt := 18) C0.1 C0.2.1 dX5_under_6 (by decide) (fun c2 => ?_) (fun c2 => ?_)
  · have h := h.1 c2
    refine lv_aload_n C0.1 C0.2.1 dX5_under_18 rfl (lv_at hl 0 rfl) ?_
    refine g5_6 C0 hO i1 tb_611 dX5_under_19 ?_
    exact e_I C0 Y hO hS h (Nat.le_refl _) (Nat.le_refl _) dX5_under_22
  · have h := h.2 c2
    refine lv_aload_n C0.1 C0.2.1 dX5_under_9 rfl (lv_at hl 0 rfl) ?_
    refine g5_1 C0 hO i1 tb_598 dX5_under_10 ?_
    refine lv_bipush (v := 105) C0.1 C0.2.1 dX5_under_13 (by decide) ?_
    refine lv_icmp_ne (tgt := 23) C0.1 C0.2.1 dX5_under_15 (by decide) (fun c3 => ?_) (fun c3 => ?_)
    · have h := h.1 c3
      refine lv_aload_n C0.1 C0.2.1 dX5_under_23 rfl (lv_at hl 0 rfl) ?_
      refine g5_1 C0 hO i1 tb_598 dX5_under_24 ?_
      refine lv_bipush (v := 112) C0.1 C0.2.1 dX5_under_27 (by decide) ?_
      refine lv_icmp_ne (tgt := 42) C0.1 C0.2.1 dX5_under_29 (by decide) (fun c4 => ?_) (fun c4 => ?_)
      · have h := h.1 c4
        refine lv_aload_n C0.1 C0.2.1 dX5_under_42 rfl (lv_at hl 0 rfl) ?_
        refine g5_1 C0 hO i1 tb_598 dX5_under_43 ?_
        refine lv_bipush (v := 118) C0.1 C0.2.1 dX5_under_46 (by decide) ?_
        refine lv_icmp_ne (tgt := 58) C0.1 C0.2.1 dX5_under_48 (by decide) (fun c5 => ?_) (fun c5 => ?_)
        · have h := h.1 c5
          refine lv_iconst (v := 1) C0.1 C0.2.1 dX5_under_58 (by decide) ?_
          exact e_I C0 Y hO hS h (Nat.le_refl _) (Nat.le_refl _) dX5_under_59
        · have h := h.2 c5
          refine lv_aload_n C0.1 C0.2.1 dX5_under_51 rfl (lv_at hl 0 rfl) ?_
          refine g5_5 C0 hO i1 tb_609 dX5_under_52 ?_
          refine lv_goto (tgt := 59) C0.1 C0.2.1 dX5_under_55 (by decide) ?_
          exact e_I C0 Y hO hS h (Nat.le_refl _) (Nat.le_refl _) dX5_under_59
      · have h := h.2 c4
        refine lv_aload_n C0.1 C0.2.1 dX5_under_32 rfl (lv_at hl 0 rfl) ?_
        refine g5_5 C0 hO i1 tb_609 dX5_under_33 ?_
        refine lv_aload_n C0.1 C0.2.1 dX5_under_36 rfl (lv_at hl 0 rfl) ?_
        refine g5_6 C0 hO i1 tb_611 dX5_under_37 ?_
        refine lv_iadd C0.1 C0.2.1 dX5_under_40 ?_
        exact e_I C0 Y hO hS h (Nat.le_refl _) (Nat.le_refl _) dX5_under_41
    · have h := h.2 c3
      refine lv_aload_n C0.1 C0.2.1 dX5_under_18 rfl (lv_at hl 0 rfl) ?_
      refine g5_6 C0 hO i1 tb_611 dX5_under_19 ?_
      exact e_I C0 Y hO hS h (Nat.le_refl _) (Nat.le_refl _) dX5_under_22
def wX5_under (S : Hp) (x0 : Nat) (Φ : Hp → Int32 → Prop) : Prop := wX5_under_b0 x0 Φ S
set_option maxRecDepth 100000 in
theorem mX5_under {l : Launch} {G : Gw} {S : Hp} {x0 : Nat} {Φ : Hp → Int32 → Prop} (h : wX5_under S x0 Φ) : gM l yX5_under cX5_under 1 (some .int) rm_X5_under [.ref x0] G S (PI Φ) := by
  unfold gM
  refine Met.ofW (cc := cX5_under) (maxL := 1) (ret := (some .int)) (by decide) rfl ?_
  intro p e s m args below meth c s₁ B hml hv
  obtain ⟨rfl, hw⟩ := hv
  obtain ⟨C0, Y, hO⟩ := mx_of B hml hw
  have hS : va_S (Ab G.b) s.heap s.heap [] := va_S.rf
  have hl := lv_entry ([.ref x0]) (n := 1) (Nat.le_of_ble_eq_true rfl)
  rw [lg_entry_eq]
  generalize (lg_sl ([.ref x0]) ++ List.replicate (1 - (lg_sl ([.ref x0])).length) Slot.unset).toArray = ls at hl ⊢
  have hl : lv_has ls 1 [(0, .ref x0)] := hl
  exact bX5_under_b0 C0 Y S _ _ _ h hO hS hl

def rm_X5_carry : Room := { frames := 2, cells := 0, slots := 0, locals := 65 }
def wX5_carry_b0 (x0 : Nat) (x1 : Nat) (x2 : Int32) (Φ : Hp → Prop) (S : Hp) : Prop := isA S x0 5 ∧ isA S x1 4 ∧ wX4_overAt S x1 (S.FI 322 x0) (fun S2 r3 => isA S2 x0 5 ∧ isA S2 x1 4 ∧ wX4_underAt S2 x1 (S2.FI 322 x0) (fun S6 r7 => isA S6 x0 5 ∧ wX5_under S6 x0 (fun S9 r10 => isA S9 x1 4 ∧ wX4_add S9 x1 (S.FI 324 x0) (r3 * x2.toInt64) (r7 * r10.toInt64) (fun S12 => isA S12 x0 5 ∧ wX5_hasSecond S12 x0 (fun S14 r15 => ((r15 = 0 → Φ S14) ∧ (¬ (r15 = 0) → isA S14 x0 5 ∧ isA S14 x1 4 ∧ wX4_overAt S14 x1 (S14.FI 323 x0) (fun S19 r20 => isA S19 x0 5 ∧ isA S19 x1 4 ∧ wX4_underAt S19 x1 (S19.FI 323 x0) (fun S23 r24 => isA S23 x0 5 ∧ wX5_under S23 x0 (fun S26 r27 => isA S26 x1 4 ∧ wX4_add S26 x1 (S14.FI 324 x0) (r20 * ((S19.FI 326 x0).toInt64)) (r24 * r27.toInt64) (fun S29 => Φ S29)))))))))))
set_option maxHeartbeats 4000000 in
set_option maxRecDepth 100000 in
theorem bX5_carry_b0 {p : Program} {l : Launch} {e : Env} {s : State} {m : MethodId} {args : Array Value} {below : List Frame} {meth : Method} {c : Code} {G : Gw} {x0 : Nat} {x1 : Nat} {x2 : Int32} {Φ : Hp → Prop} (C0 : Mx p s m c cX5_carry 3 args yX5_carry.cls G) (Y : My meth none)  : ∀ (S : Hp) (H : Heap) (locs : List Loc) (ls : Array Slot), wX5_carry_b0 x0 x1 x2 Φ S → Ok G S H → va_S (Ab G.b) s.heap H locs → lv_has ls 3 [(0, .ref x0), (1, .ref x1), (2, .int x2)] → W p l e rm_X5_carry s m args below meth c H locs 0 0 (MQ below (gQ G (PV Φ)) args s rm_X5_carry.cells rm_X5_carry.slots (Ab G.b)) (F0 m 0 ls []) := by
  intro S H locs ls h hO hS hl
  unfold wX5_carry_b0 at h
  refine lv_aload_n C0.1 C0.2.1 dX5_carry_0 rfl (lv_at hl 1 rfl) ?_
  refine lv_aload_n C0.1 C0.2.1 dX5_carry_1 rfl (lv_at hl 0 rfl) ?_
  obtain ⟨i1, h⟩ := h
  refine g5_4 C0 hO i1 tb_606 dX5_carry_2 ?_
  refine lv_aload_n C0.1 C0.2.1 dX5_carry_5 rfl (lv_at hl 1 rfl) ?_
  refine lv_aload_n C0.1 C0.2.1 dX5_carry_6 rfl (lv_at hl 0 rfl) ?_
  refine g5_2 C0 hO i1 tb_600 dX5_carry_7 ?_
  obtain ⟨i4, h⟩ := h
  refine c_V C0 hO hS (mX4_overAt h) i4 (by decide) rfl rfl tb_409 tb_384 tb_385 tb_31 tb_386 hd_X4_overAt rfl ⟨⟨by decide, by decide⟩, by decide, by decide⟩ hl.1 rfl (Nat.le_of_ble_eq_true rfl) dX5_carry_10 (kJ (fun r3 S2 H locs h hO hS => ?_))
  refine lv_iload_n C0.1 C0.2.1 dX5_carry_13 rfl (lv_at hl 2 rfl) ?_
  refine lv_i2l C0.1 C0.2.1 dX5_carry_14 rfl ?_
  refine lv_lmul C0.1 C0.2.1 dX5_carry_15 ?_
  refine lv_aload_n C0.1 C0.2.1 dX5_carry_16 rfl (lv_at hl 1 rfl) ?_
  refine lv_aload_n C0.1 C0.2.1 dX5_carry_17 rfl (lv_at hl 0 rfl) ?_
  obtain ⟨i5, h⟩ := h
  refine g5_2 C0 hO i5 tb_600 dX5_carry_18 ?_
  obtain ⟨i8, h⟩ := h
  refine c_V C0 hO hS (mX4_underAt h) i8 (by decide) rfl rfl tb_410 tb_411 tb_412 tb_31 tb_413 hd_X4_underAt rfl ⟨⟨by decide, by decide⟩, by decide, by decide⟩ hl.1 rfl (Nat.le_of_ble_eq_true rfl) dX5_carry_21 (kJ (fun r7 S6 H locs h hO hS => ?_))
  refine lv_aload_n C0.1 C0.2.1 dX5_carry_24 rfl (lv_at hl 0 rfl) ?_
  obtain ⟨i11, h⟩ := h
  refine c_V C0 hO hS (mX5_under h) i11 (by decide) rfl rfl tb_414 tb_415 tb_416 tb_48 tb_417 hd_X5_under rfl ⟨⟨by decide, by decide⟩, by decide, by decide⟩ hl.1 rfl (Nat.le_of_ble_eq_true rfl) dX5_carry_25 (kI (fun r10 S9 H locs h hO hS => ?_))
  refine lv_i2l C0.1 C0.2.1 dX5_carry_28 rfl ?_
  refine lv_lmul C0.1 C0.2.1 dX5_carry_29 ?_
  obtain ⟨i13, h⟩ := h
  refine c_V C0 hO hS (mX4_add h) i13 (by decide) rfl rfl tb_418 tb_365 tb_366 tb_31 tb_367 hd_X4_add rfl ⟨⟨by decide, by decide⟩, by decide, by decide⟩ hl.1 rfl (Nat.le_of_ble_eq_true rfl) dX5_carry_30 (kV (fun S12 H locs h hO hS => ?_))
  refine lv_aload_n C0.1 C0.2.1 dX5_carry_33 rfl (lv_at hl 0 rfl) ?_
  obtain ⟨i16, h⟩ := h
  refine c_V C0 hO hS (mX5_hasSecond h) i16 (by decide) rfl rfl tb_419 tb_420 tb_421 tb_48 tb_422 hd_X5_hasSecond rfl ⟨⟨by decide, by decide⟩, by decide, by decide⟩ hl.1 rfl (Nat.le_of_ble_eq_true rfl) dX5_carry_34 (kI (fun r15 S14 H locs h hO hS => ?_))
  refine lv_if_eq (tgt := 76) C0.1 C0.2.1 dX5_carry_37 (by decide) (fun c17 => ?_) (fun c17 => ?_)
  · have h := h.1 c17
    exact e_V C0 Y hO hS h (Nat.le_refl _) (Nat.le_refl _) dX5_carry_76
  · have h := h.2 c17
    refine lv_aload_n C0.1 C0.2.1 dX5_carry_40 rfl (lv_at hl 1 rfl) ?_
    refine lv_aload_n C0.1 C0.2.1 dX5_carry_41 rfl (lv_at hl 0 rfl) ?_
    obtain ⟨i18, h⟩ := h
    refine g5_4 C0 hO i18 tb_606 dX5_carry_42 ?_
    refine lv_aload_n C0.1 C0.2.1 dX5_carry_45 rfl (lv_at hl 1 rfl) ?_
    refine lv_aload_n C0.1 C0.2.1 dX5_carry_46 rfl (lv_at hl 0 rfl) ?_
    refine g5_3 C0 hO i18 tb_603 dX5_carry_47 ?_
    obtain ⟨i21, h⟩ := h
    refine c_V C0 hO hS (mX4_overAt h) i21 (by decide) rfl rfl tb_409 tb_384 tb_385 tb_31 tb_386 hd_X4_overAt rfl ⟨⟨by decide, by decide⟩, by decide, by decide⟩ hl.1 rfl (Nat.le_of_ble_eq_true rfl) dX5_carry_50 (kJ (fun r20 S19 H locs h hO hS => ?_))
    refine lv_aload_n C0.1 C0.2.1 dX5_carry_53 rfl (lv_at hl 0 rfl) ?_
    obtain ⟨i22, h⟩ := h
    refine g5_6 C0 hO i22 tb_611 dX5_carry_54 ?_
    refine lv_i2l C0.1 C0.2.1 dX5_carry_57 rfl ?_
    refine lv_lmul C0.1 C0.2.1 dX5_carry_58 ?_
    refine lv_aload_n C0.1 C0.2.1 dX5_carry_59 rfl (lv_at hl 1 rfl) ?_
    refine lv_aload_n C0.1 C0.2.1 dX5_carry_60 rfl (lv_at hl 0 rfl) ?_
    refine g5_3 C0 hO i22 tb_603 dX5_carry_61 ?_
    obtain ⟨i25, h⟩ := h
    refine c_V C0 hO hS (mX4_underAt h) i25 (by decide) rfl rfl tb_410 tb_411 tb_412 tb_31 tb_413 hd_X4_underAt rfl ⟨⟨by decide, by decide⟩, by decide, by decide⟩ hl.1 rfl (Nat.le_of_ble_eq_true rfl) dX5_carry_64 (kJ (fun r24 S23 H locs h hO hS => ?_))
    refine lv_aload_n C0.1 C0.2.1 dX5_carry_67 rfl (lv_at hl 0 rfl) ?_
    obtain ⟨i28, h⟩ := h
    refine c_V C0 hO hS (mX5_under h) i28 (by decide) rfl rfl tb_414 tb_415 tb_416 tb_48 tb_417 hd_X5_under rfl ⟨⟨by decide, by decide⟩, by decide, by decide⟩ hl.1 rfl (Nat.le_of_ble_eq_true rfl) dX5_carry_68 (kI (fun r27 S26 H locs h hO hS => ?_))
    refine lv_i2l C0.1 C0.2.1 dX5_carry_71 rfl ?_
    refine lv_lmul C0.1 C0.2.1 dX5_carry_72 ?_
    obtain ⟨i30, h⟩ := h
    refine c_V C0 hO hS (mX4_add h) i30 (by decide) rfl rfl tb_418 tb_365 tb_366 tb_31 tb_367 hd_X4_add rfl ⟨⟨by decide, by decide⟩, by decide, by decide⟩ hl.1 rfl (Nat.le_of_ble_eq_true rfl) dX5_carry_73 (kV (fun S29 H locs h hO hS => ?_))
    exact e_V C0 Y hO hS h (Nat.le_refl _) (Nat.le_refl _) dX5_carry_76
def wX5_carry (S : Hp) (x0 : Nat) (x1 : Nat) (x2 : Int32) (Φ : Hp → Prop) : Prop := wX5_carry_b0 x0 x1 x2 Φ S
set_option maxRecDepth 100000 in
theorem mX5_carry {l : Launch} {G : Gw} {S : Hp} {x0 : Nat} {x1 : Nat} {x2 : Int32} {Φ : Hp → Prop} (h : wX5_carry S x0 x1 x2 Φ) : gM l yX5_carry cX5_carry 3 none rm_X5_carry [.ref x0, .ref x1, .int x2] G S (PV Φ) := by
  unfold gM
  refine Met.ofW (cc := cX5_carry) (maxL := 3) (ret := none) (by decide) rfl ?_
  intro p e s m args below meth c s₁ B hml hv
  obtain ⟨rfl, hw⟩ := hv
  obtain ⟨C0, Y, hO⟩ := mx_of B hml hw
  have hS : va_S (Ab G.b) s.heap s.heap [] := va_S.rf
  have hl := lv_entry ([.ref x0, .ref x1, .int x2]) (n := 3) (Nat.le_of_ble_eq_true rfl)
  rw [lg_entry_eq]
  generalize (lg_sl ([.ref x0, .ref x1, .int x2]) ++ List.replicate (3 - (lg_sl ([.ref x0, .ref x1, .int x2])).length) Slot.unset).toArray = ls at hl ⊢
  have hl : lv_has ls 3 [(0, .ref x0), (1, .ref x1), (2, .int x2)] := hl
  exact bX5_carry_b0 C0 Y S _ _ _ h hO hS hl

def rm_X6_init : Room := { frames := 2, cells := 11, slots := 182, locals := 45 }
def wX6_init_b0 (x0 : Nat) (Φ : Hp → Prop) (S : Hp) : Prop := ∀ a1 S2, a1 ∉ S.L → S2 = S.new a1 4 0 → wX4_init S2 a1 14 (fun S3 => isA S3 x0 6 ∧ ∀ S5, S5 = S3.setFR 384 x0 (some a1) → ∀ a6 S7, a6 ∉ S5.L → S7 = S5.new a6 4 0 → wX4_init S7 a6 14 (fun S8 => isA S8 x0 6 ∧ ∀ S10, S10 = S8.setFR 385 x0 (some a6) → ∀ a11 S12, a11 ∉ S10.L → S12 = S10.new a11 4 0 → wX4_init S12 a11 14 (fun S13 => isA S13 x0 6 ∧ ∀ S15, S15 = S13.setFR 386 x0 (some a11) → ∀ a16 S17, a16 ∉ S15.L → S17 = S15.new a16 22 16 → ∀ S18, S18 = S17.setFR 387 x0 (some a16) → ∀ a19 S20, a19 ∉ S18.L → S20 = S18.new a19 23 16 → ∀ S21, S21 = S20.setFR 388 x0 (some a19) → Φ S21)))
set_option maxHeartbeats 4000000 in
set_option maxRecDepth 100000 in
theorem bX6_init_b0 {p : Program} {l : Launch} {e : Env} {s : State} {m : MethodId} {args : Array Value} {below : List Frame} {meth : Method} {c : Code} {G : Gw} {x0 : Nat} {Φ : Hp → Prop} (C0 : Mx p s m c cX6_init 1 args yX6_init.cls G) (Y : My meth none) (hin9 : meth.name = "<init>")  : ∀ (S : Hp) (H : Heap) (locs : List Loc) (ls : Array Slot) (cells slots : Nat), wX6_init_b0 x0 Φ S → Ok G S H → va_S (Ab G.b) s.heap H locs → lv_has ls 1 [(0, .ref x0)] → cells + (11) ≤ 11 → slots + (182) ≤ 182 → W p l e rm_X6_init s m args below meth c H locs cells slots (MQ below (gQ G (PV Φ)) args s rm_X6_init.cells rm_X6_init.slots (Ab G.b)) (F0 m 0 ls []) := by
  intro S H locs ls cells slots h hO hS hl hcc hss
  unfold wX6_init_b0 at h
  refine lv_aload_n C0.1 C0.2.1 dX6_init_0 rfl (lv_at hl 0 rfl) ?_
  refine W.objInit C0.1 C0.2.1 C0.2.2.2.1 (C0.2.2.2.2.1 _ tb_110) (C0.2.2.2.2.1 _ tb_58) (C0.2.2.2.2.1 _ tb_59) rfl (hl.1.trans C0.2.2.1.symm) rfl dX6_init_1 (Nat.le_of_ble_eq_true rfl) (Nat.le_of_ble_eq_true rfl) ?_
  refine W.eq (g2 := F0 _ 4 _ _) rfl ?_
  refine lv_aload_n C0.1 C0.2.1 dX6_init_4 rfl (lv_at hl 0 rfl) ?_
  refine n_4 C0 hO hS tb_111 tb_87 tb_31 (by show _ ≤ 11; omega) (by show _ ≤ 182; omega) dX6_init_5 (fun a1 H hna1 hO hS => ?_)
  have h := h a1 _ hna1 rfl
  refine lv_dup C0.1 C0.2.1 dX6_init_8 rfl ?_
  refine lv_bipush (v := 14) C0.1 C0.2.1 dX6_init_9 (by decide) ?_
  refine c_I C0 hO hS (mX4_init h) tb_112 tb_89 tb_31 tb_90 rfl hd_X4_init rfl ⟨⟨by decide, by decide⟩, by show _ + 2 ≤ 11; omega, by show _ + 48 ≤ 182; omega⟩ hl.1 rfl (Nat.le_of_ble_eq_true rfl) dX6_init_11 (kV (fun S3 H locs h hO hS => ?_))
  change W _ _ _ _ _ _ _ _ _ _ _ _ (_ + 2) (_ + 48) _ _
  obtain ⟨i4, h⟩ := h
  refine p6_0 C0 hO hS i4 hin9 rfl tb_113 dX6_init_14 (fun H locs hO hS => ?_)
  have h := h _ rfl
  refine lv_aload_n C0.1 C0.2.1 dX6_init_17 rfl (lv_at hl 0 rfl) ?_
  refine n_4 C0 hO hS tb_111 tb_87 tb_31 (by show _ ≤ 11; omega) (by show _ ≤ 182; omega) dX6_init_18 (fun a6 H hna6 hO hS => ?_)
  have h := h a6 _ hna6 rfl
  refine lv_dup C0.1 C0.2.1 dX6_init_21 rfl ?_
  refine lv_bipush (v := 14) C0.1 C0.2.1 dX6_init_22 (by decide) ?_
  refine c_I C0 hO hS (mX4_init h) tb_112 tb_89 tb_31 tb_90 rfl hd_X4_init rfl ⟨⟨by decide, by decide⟩, by show _ + 2 ≤ 11; omega, by show _ + 48 ≤ 182; omega⟩ hl.1 rfl (Nat.le_of_ble_eq_true rfl) dX6_init_24 (kV (fun S8 H locs h hO hS => ?_))
  change W _ _ _ _ _ _ _ _ _ _ _ _ (_ + 2) (_ + 48) _ _
  obtain ⟨i9, h⟩ := h
  refine p6_1 C0 hO hS i9 hin9 rfl tb_115 dX6_init_27 (fun H locs hO hS => ?_)
  have h := h _ rfl
  refine lv_aload_n C0.1 C0.2.1 dX6_init_30 rfl (lv_at hl 0 rfl) ?_
  refine n_4 C0 hO hS tb_111 tb_87 tb_31 (by show _ ≤ 11; omega) (by show _ ≤ 182; omega) dX6_init_31 (fun a11 H hna11 hO hS => ?_)
  have h := h a11 _ hna11 rfl
  refine lv_dup C0.1 C0.2.1 dX6_init_34 rfl ?_
  refine lv_bipush (v := 14) C0.1 C0.2.1 dX6_init_35 (by decide) ?_
  refine c_I C0 hO hS (mX4_init h) tb_112 tb_89 tb_31 tb_90 rfl hd_X4_init rfl ⟨⟨by decide, by decide⟩, by show _ + 2 ≤ 11; omega, by show _ + 48 ≤ 182; omega⟩ hl.1 rfl (Nat.le_of_ble_eq_true rfl) dX6_init_37 (kV (fun S13 H locs h hO hS => ?_))
  change W _ _ _ _ _ _ _ _ _ _ _ _ (_ + 2) (_ + 48) _ _
  obtain ⟨i14, h⟩ := h
  refine p6_2 C0 hO hS i14 hin9 rfl tb_117 dX6_init_40 (fun H locs hO hS => ?_)
  have h := h _ rfl
  refine lv_aload_n C0.1 C0.2.1 dX6_init_43 rfl (lv_at hl 0 rfl) ?_
  refine lv_bipush (v := 16) C0.1 C0.2.1 dX6_init_44 (by decide) ?_
  refine n_22k (k := 16) C0 hO hS (by decide) (by show _ ≤ 11; omega) (by show _ ≤ 182; omega) dX6_init_46 (fun a16 H hna16 hO hS => ?_)
  have h := h a16 _ hna16 rfl
  refine p6_3 C0 hO hS (new_old (n := 16) hna16 (sA_FR i14)) hin9 rfl tb_119 dX6_init_48 (fun H locs hO hS => ?_)
  have h := h _ rfl
  refine lv_aload_n C0.1 C0.2.1 dX6_init_51 rfl (lv_at hl 0 rfl) ?_
  refine lv_bipush (v := 16) C0.1 C0.2.1 dX6_init_52 (by decide) ?_
  refine n_23k (k := 16) C0 hO hS (by decide) (by show _ ≤ 11; omega) (by show _ ≤ 182; omega) dX6_init_54 (fun a19 H hna19 hO hS => ?_)
  have h := h a19 _ hna19 rfl
  refine p6_4 C0 hO hS (new_old (n := 16) hna19 (sA_FR (new_old (n := 16) hna16 (sA_FR i14)))) hin9 rfl tb_120 dX6_init_56 (fun H locs hO hS => ?_)
  have h := h _ rfl
  exact e_V C0 Y hO hS h (by show _ ≤ 11; omega) (by show _ ≤ 182; omega) dX6_init_59
def wX6_init (S : Hp) (x0 : Nat) (Φ : Hp → Prop) : Prop := wX6_init_b0 x0 Φ S
set_option maxRecDepth 100000 in
theorem mX6_init {l : Launch} {G : Gw} {S : Hp} {x0 : Nat} {Φ : Hp → Prop} (h : wX6_init S x0 Φ) : gM l yX6_init cX6_init 1 none rm_X6_init [.ref x0] G S (PV Φ) := by
  unfold gM
  refine Met.ofW (cc := cX6_init) (maxL := 1) (ret := none) (by decide) rfl ?_
  intro p e s m args below meth c s₁ B hml hv
  obtain ⟨rfl, hw⟩ := hv
  obtain ⟨C0, Y, hO⟩ := mx_of B hml hw
  have hS : va_S (Ab G.b) s.heap s.heap [] := va_S.rf
  have hin9 : meth.name = "<init>" := (name_of_methodNamed B.named B.method).1
  have hl := lv_entry ([.ref x0]) (n := 1) (Nat.le_of_ble_eq_true rfl)
  rw [lg_entry_eq]
  generalize (lg_sl ([.ref x0]) ++ List.replicate (1 - (lg_sl ([.ref x0])).length) Slot.unset).toArray = ls at hl ⊢
  have hl : lv_has ls 1 [(0, .ref x0)] := hl
  exact bX6_init_b0 C0 Y hin9 S _ _ _ 0 0 h hO hS hl (by decide) (by decide)

def rm_X6_copyFrom : Room := { frames := 2, cells := 0, slots := 0, locals := 82 }
def wX6_copyFrom_b13 (x0 : Nat) (x1 : Nat) (Φ : Hp → Prop) (k13 : Hp → Int32 → Prop) (S : Hp) (v2 : Int32) : Prop := ((16 ≤ v2 → Φ S) ∧ (¬ (16 ≤ v2) → isA S x0 6 ∧ ∃ a3, S.FR 387 x0 = some a3 ∧ isA S x1 6 ∧ ∃ a5, S.FR 387 x1 = some a5 ∧ isA S a5 22 ∧ vp_in v2 (S.N a5) ∧ isA S a3 22 ∧ vp_in v2 (S.N a3) ∧ ∀ S10, S10 = S.setAJ a3 v2.toNatClampNeg (S.AJ a5 v2.toNatClampNeg) → ∃ a11, S10.FR 388 x0 = some a11 ∧ ∃ a12, S10.FR 388 x1 = some a12 ∧ isA S10 a12 23 ∧ vp_in v2 (S10.N a12) ∧ isA S10 a11 23 ∧ vp_in v2 (S10.N a11) ∧ nb (S10.AI a12 v2.toNatClampNeg) ∧ ∀ S18, S18 = S10.setAI a11 v2.toNatClampNeg (S10.AI a12 v2.toNatClampNeg) → k13 S18 (v2 + 1)))
set_option maxHeartbeats 4000000 in
set_option maxRecDepth 100000 in
theorem bX6_copyFrom_b13 {p : Program} {l : Launch} {e : Env} {s : State} {m : MethodId} {args : Array Value} {below : List Frame} {meth : Method} {c : Code} {G : Gw} {x0 : Nat} {x1 : Nat} {Φ : Hp → Prop} (C0 : Mx p s m c cX6_copyFrom 3 args yX6_copyFrom.cls G) (Y : My meth none) {k13 : Hp → Int32 → Prop} (hk13 : ∀ (S : Hp) (v2 : Int32) (H : Heap) (locs : List Loc) (ls : Array Slot), k13 S v2 → Ok G S H → va_S (Ab G.b) s.heap H locs → lv_has ls 3 [(0, .ref x0), (1, .ref x1), (2, .int v2)] → W p l e rm_X6_copyFrom s m args below meth c H locs 0 0 (MQ below (gQ G (PV Φ)) args s rm_X6_copyFrom.cells rm_X6_copyFrom.slots (Ab G.b)) (F0 m 13 ls [])) : ∀ (S : Hp) (v2 : Int32) (H : Heap) (locs : List Loc) (ls : Array Slot), wX6_copyFrom_b13 x0 x1 Φ k13 S v2 → Ok G S H → va_S (Ab G.b) s.heap H locs → lv_has ls 3 [(0, .ref x0), (1, .ref x1), (2, .int v2)] → W p l e rm_X6_copyFrom s m args below meth c H locs 0 0 (MQ below (gQ G (PV Φ)) args s rm_X6_copyFrom.cells rm_X6_copyFrom.slots (Ab G.b)) (F0 m 13 ls []) := by
  intro S v2 H locs ls h hO hS hl
  unfold wX6_copyFrom_b13 at h
  refine lv_iload_n C0.1 C0.2.1 dX6_copyFrom_13 rfl (lv_at hl 2 rfl) ?_
  refine lv_bipush (v := 16) C0.1 C0.2.1 dX6_copyFrom_14 (by decide) ?_
  refine lv_icmp_ge (tgt := 49) C0.1 C0.2.1 dX6_copyFrom_16 (by decide) (fun c1 => ?_) (fun c1 => ?_)
  · have h := h.1 c1
    exact e_V C0 Y hO hS h (Nat.le_refl _) (Nat.le_refl _) dX6_copyFrom_49
  · have h := h.2 c1
    refine lv_aload_n C0.1 C0.2.1 dX6_copyFrom_19 rfl (lv_at hl 0 rfl) ?_
    obtain ⟨i2, h⟩ := h
    obtain ⟨a3, ea3, h⟩ := h
    refine g6_3 C0 hO i2 ea3 tb_119 dX6_copyFrom_20 ?_
    refine lv_iload_n C0.1 C0.2.1 dX6_copyFrom_23 rfl (lv_at hl 2 rfl) ?_
    refine lv_aload_n C0.1 C0.2.1 dX6_copyFrom_24 rfl (lv_at hl 1 rfl) ?_
    obtain ⟨i4, h⟩ := h
    obtain ⟨a5, ea5, h⟩ := h
    refine g6_3 C0 hO i4 ea5 tb_119 dX6_copyFrom_25 ?_
    refine lv_iload_n C0.1 C0.2.1 dX6_copyFrom_28 rfl (lv_at hl 2 rfl) ?_
    obtain ⟨i6, h⟩ := h
    obtain ⟨e7, h⟩ := h
    refine r_lald C0 hO i6 e7 dX6_copyFrom_29 ?_
    obtain ⟨i8, h⟩ := h
    obtain ⟨e9, h⟩ := h
    refine r_last C0 hO hS i8 e9 dX6_copyFrom_30 (fun H locs hO hS => ?_)
    have h := h _ rfl
    refine lv_aload_n C0.1 C0.2.1 dX6_copyFrom_31 rfl (lv_at hl 0 rfl) ?_
    obtain ⟨a11, ea11, h⟩ := h
    refine g6_4 C0 hO (sA_AJ i2) ea11 tb_120 dX6_copyFrom_32 ?_
    refine lv_iload_n C0.1 C0.2.1 dX6_copyFrom_35 rfl (lv_at hl 2 rfl) ?_
    refine lv_aload_n C0.1 C0.2.1 dX6_copyFrom_36 rfl (lv_at hl 1 rfl) ?_
    obtain ⟨a12, ea12, h⟩ := h
    refine g6_4 C0 hO (sA_AJ i4) ea12 tb_120 dX6_copyFrom_37 ?_
    refine lv_iload_n C0.1 C0.2.1 dX6_copyFrom_40 rfl (lv_at hl 2 rfl) ?_
    obtain ⟨i13, h⟩ := h
    obtain ⟨e14, h⟩ := h
    refine r_zald C0 hO i13 e14 dX6_copyFrom_41 ?_
    obtain ⟨i15, h⟩ := h
    obtain ⟨e16, h⟩ := h
    obtain ⟨e17, h⟩ := h
    refine r_zast C0 hO hS i15 e16 e17 dX6_copyFrom_42 (fun H locs hO hS => ?_)
    have h := h _ rfl
    refine lv_iinc (v := _ + 1) C0.1 C0.2.1 dX6_copyFrom_43 hl (k := 2) rfl rfl (by decide) rfl (fun ls hl => ?_)
    refine lv_goto (tgt := 13) C0.1 C0.2.1 dX6_copyFrom_46 (by decide) ?_
    exact hk13 _ _ _ _ _ h hO hS (lv_sub hl [1, 2, 0] rfl)
set_option maxHeartbeats 4000000 in
set_option maxRecDepth 100000 in
theorem lX6_copyFrom_b13 {p : Program} {l : Launch} {e : Env} {s : State} {m : MethodId} {args : Array Value} {below : List Frame} {meth : Method} {c : Code} {G : Gw} {x0 : Nat} {x1 : Nat} {Φ : Hp → Prop} (C0 : Mx p s m c cX6_copyFrom 3 args yX6_copyFrom.cls G) (Y : My meth none)  : ∀ n9 : Nat, ∀ (S : Hp) (v2 : Int32) (H : Heap) (locs : List Loc) (ls : Array Slot), it2 (wX6_copyFrom_b13 x0 x1 Φ) n9 S v2 → Ok G S H → va_S (Ab G.b) s.heap H locs → lv_has ls 3 [(0, .ref x0), (1, .ref x1), (2, .int v2)] → W p l e rm_X6_copyFrom s m args below meth c H locs 0 0 (MQ below (gQ G (PV Φ)) args s rm_X6_copyFrom.cells rm_X6_copyFrom.slots (Ab G.b)) (F0 m 13 ls []) := by
  intro n9
  induction n9 with
  | zero => intro S v2 H locs ls h; exact (h : False).elim
  | succ n9 ih => intro S v2 H locs ls h hO hS hl; exact bX6_copyFrom_b13 C0 Y ih S v2 H locs ls h hO hS hl
def wX6_copyFrom_b0 (x0 : Nat) (x1 : Nat) (Φ : Hp → Prop) (S : Hp) : Prop := isA S x0 6 ∧ ∃ a2, S.FR 384 x0 = some a2 ∧ isA S x1 6 ∧ ∃ a4, S.FR 384 x1 = some a4 ∧ isA S a2 4 ∧ wX4_copyFrom S a2 a4 (fun S5 => ∃ n, it2 (wX6_copyFrom_b13 x0 x1 Φ) n S5 0)
set_option maxHeartbeats 4000000 in
set_option maxRecDepth 100000 in
theorem bX6_copyFrom_b0 {p : Program} {l : Launch} {e : Env} {s : State} {m : MethodId} {args : Array Value} {below : List Frame} {meth : Method} {c : Code} {G : Gw} {x0 : Nat} {x1 : Nat} {Φ : Hp → Prop} (C0 : Mx p s m c cX6_copyFrom 3 args yX6_copyFrom.cls G) (Y : My meth none)  : ∀ (S : Hp) (H : Heap) (locs : List Loc) (ls : Array Slot), wX6_copyFrom_b0 x0 x1 Φ S → Ok G S H → va_S (Ab G.b) s.heap H locs → lv_has ls 3 [(0, .ref x0), (1, .ref x1)] → W p l e rm_X6_copyFrom s m args below meth c H locs 0 0 (MQ below (gQ G (PV Φ)) args s rm_X6_copyFrom.cells rm_X6_copyFrom.slots (Ab G.b)) (F0 m 0 ls []) := by
  intro S H locs ls h hO hS hl
  unfold wX6_copyFrom_b0 at h
  refine lv_aload_n C0.1 C0.2.1 dX6_copyFrom_0 rfl (lv_at hl 0 rfl) ?_
  obtain ⟨i1, h⟩ := h
  obtain ⟨a2, ea2, h⟩ := h
  refine g6_0 C0 hO i1 ea2 tb_113 dX6_copyFrom_1 ?_
  refine lv_aload_n C0.1 C0.2.1 dX6_copyFrom_4 rfl (lv_at hl 1 rfl) ?_
  obtain ⟨i3, h⟩ := h
  obtain ⟨a4, ea4, h⟩ := h
  refine g6_0 C0 hO i3 ea4 tb_113 dX6_copyFrom_5 ?_
  obtain ⟨i6, h⟩ := h
  refine c_V C0 hO hS (mX4_copyFrom h) i6 (by decide) rfl rfl tb_327 tb_328 tb_329 tb_31 tb_330 hd_X4_copyFrom rfl ⟨⟨by decide, by decide⟩, by decide, by decide⟩ hl.1 rfl (Nat.le_of_ble_eq_true rfl) dX6_copyFrom_8 (kV (fun S5 H locs h hO hS => ?_))
  refine lv_iconst (v := 0) C0.1 C0.2.1 dX6_copyFrom_11 (by decide) ?_
  refine lv_istore_n C0.1 C0.2.1 dX6_copyFrom_12 rfl hl (by decide) rfl (fun ls hl => ?_)
  obtain ⟨n9, h⟩ := h
  exact lX6_copyFrom_b13 C0 Y n9 _ _ _ _ _ h hO hS (lv_sub hl [1, 2, 0] rfl)
def wX6_copyFrom (S : Hp) (x0 : Nat) (x1 : Nat) (Φ : Hp → Prop) : Prop := wX6_copyFrom_b0 x0 x1 Φ S
set_option maxRecDepth 100000 in
theorem mX6_copyFrom {l : Launch} {G : Gw} {S : Hp} {x0 : Nat} {x1 : Nat} {Φ : Hp → Prop} (h : wX6_copyFrom S x0 x1 Φ) : gM l yX6_copyFrom cX6_copyFrom 3 none rm_X6_copyFrom [.ref x0, .ref x1] G S (PV Φ) := by
  unfold gM
  refine Met.ofW (cc := cX6_copyFrom) (maxL := 3) (ret := none) (by decide) rfl ?_
  intro p e s m args below meth c s₁ B hml hv
  obtain ⟨rfl, hw⟩ := hv
  obtain ⟨C0, Y, hO⟩ := mx_of B hml hw
  have hS : va_S (Ab G.b) s.heap s.heap [] := va_S.rf
  have hl := lv_entry ([.ref x0, .ref x1]) (n := 3) (Nat.le_of_ble_eq_true rfl)
  rw [lg_entry_eq]
  generalize (lg_sl ([.ref x0, .ref x1]) ++ List.replicate (3 - (lg_sl ([.ref x0, .ref x1])).length) Slot.unset).toArray = ls at hl ⊢
  have hl : lv_has ls 3 [(0, .ref x0), (1, .ref x1)] := hl
  exact bX6_copyFrom_b0 C0 Y S _ _ _ h hO hS hl

def rm_X6_has : Room := { frames := 0, cells := 0, slots := 0, locals := 0 }
def wX6_has_b0 (x0 : Nat) (Φ : Hp → Int32 → Prop) (S : Hp) : Prop := isA S x0 5 ∧ (((S.FI 320 x0) < 0 → Φ S 0) ∧ (¬ ((S.FI 320 x0) < 0) → ((16 ≤ (S.FI 320 x0) → Φ S 0) ∧ (¬ (16 ≤ (S.FI 320 x0)) → Φ S 1))))
set_option maxHeartbeats 4000000 in
set_option maxRecDepth 100000 in
theorem bX6_has_b0 {p : Program} {l : Launch} {e : Env} {s : State} {m : MethodId} {args : Array Value} {below : List Frame} {meth : Method} {c : Code} {G : Gw} {x0 : Nat} {Φ : Hp → Int32 → Prop} (C0 : Mx p s m c cX6_has 1 args yX6_has.cls G) (Y : My meth (some .boolean))  : ∀ (S : Hp) (H : Heap) (locs : List Loc) (ls : Array Slot), wX6_has_b0 x0 Φ S → Ok G S H → va_S (Ab G.b) s.heap H locs → lv_has ls 1 [(0, .ref x0)] → W p l e rm_X6_has s m args below meth c H locs 0 0 (MQ below (gQ G (PI Φ)) args s rm_X6_has.cells rm_X6_has.slots (Ab G.b)) (F0 m 0 ls []) := by
  intro S H locs ls h hO hS hl
  unfold wX6_has_b0 at h
  refine lv_aload_n C0.1 C0.2.1 dX6_has_0 rfl (lv_at hl 0 rfl) ?_
  obtain ⟨i1, h⟩ := h
  refine g5_0 C0 hO i1 tb_596 dX6_has_1 ?_
  refine lv_if_lt (tgt := 20) C0.1 C0.2.1 dX6_has_4 (by decide) (fun c2 => ?_) (fun c2 => ?_)
  · have h := h.1 c2
    refine lv_iconst (v := 0) C0.1 C0.2.1 dX6_has_20 (by decide) ?_
    exact e_Z C0 Y hO hS rfl h (Nat.le_refl _) (Nat.le_refl _) dX6_has_21
  · have h := h.2 c2
    refine lv_aload_n C0.1 C0.2.1 dX6_has_7 rfl (lv_at hl 0 rfl) ?_
    refine g5_0 C0 hO i1 tb_596 dX6_has_8 ?_
    refine lv_bipush (v := 16) C0.1 C0.2.1 dX6_has_11 (by decide) ?_
    refine lv_icmp_ge (tgt := 20) C0.1 C0.2.1 dX6_has_13 (by decide) (fun c3 => ?_) (fun c3 => ?_)
    · have h := h.1 c3
      refine lv_iconst (v := 0) C0.1 C0.2.1 dX6_has_20 (by decide) ?_
      exact e_Z C0 Y hO hS rfl h (Nat.le_refl _) (Nat.le_refl _) dX6_has_21
    · have h := h.2 c3
      refine lv_iconst (v := 1) C0.1 C0.2.1 dX6_has_16 (by decide) ?_
      refine lv_goto (tgt := 21) C0.1 C0.2.1 dX6_has_17 (by decide) ?_
      exact e_Z C0 Y hO hS rfl h (Nat.le_refl _) (Nat.le_refl _) dX6_has_21
def wX6_has (S : Hp) (x0 : Nat) (Φ : Hp → Int32 → Prop) : Prop := wX6_has_b0 x0 Φ S
set_option maxRecDepth 100000 in
theorem mX6_has {l : Launch} {G : Gw} {S : Hp} {x0 : Nat} {Φ : Hp → Int32 → Prop} (h : wX6_has S x0 Φ) : gM l yX6_has cX6_has 1 (some .boolean) rm_X6_has [.ref x0] G S (PI Φ) := by
  unfold gM
  refine Met.ofW (cc := cX6_has) (maxL := 1) (ret := (some .boolean)) (by decide) rfl ?_
  intro p e s m args below meth c s₁ B hml hv
  obtain ⟨rfl, hw⟩ := hv
  obtain ⟨C0, Y, hO⟩ := mx_of B hml hw
  have hS : va_S (Ab G.b) s.heap s.heap [] := va_S.rf
  have hl := lv_entry ([.ref x0]) (n := 1) (Nat.le_of_ble_eq_true rfl)
  rw [lg_entry_eq]
  generalize (lg_sl ([.ref x0]) ++ List.replicate (1 - (lg_sl ([.ref x0])).length) Slot.unset).toArray = ls at hl ⊢
  have hl : lv_has ls 1 [(0, .ref x0)] := hl
  exact bX6_has_b0 C0 Y S _ _ _ h hO hS hl

def rm_X6_doesAct : Room := { frames := 1, cells := 0, slots := 0, locals := 20 }
def wX6_doesAct_b0 (x0 : Nat) (x1 : Nat) (Φ : Hp → Int32 → Prop) (S : Hp) : Prop := wX6_has S x1 (fun S1 r2 => ((r2 = 0 → Φ S1 0) ∧ (¬ (r2 = 0) → isA S1 x0 6 ∧ ∃ a5, S1.FR 388 x0 = some a5 ∧ isA S1 x1 5 ∧ isA S1 a5 23 ∧ vp_in (S1.FI 320 x1) (S1.N a5) ∧ (((S1.AI a5 ((S1.FI 320 x1).toNatClampNeg)) = 0 → Φ S1 0) ∧ (¬ ((S1.AI a5 ((S1.FI 320 x1).toNatClampNeg)) = 0) → Φ S1 1)))))
set_option maxHeartbeats 4000000 in
set_option maxRecDepth 100000 in
theorem bX6_doesAct_b0 {p : Program} {l : Launch} {e : Env} {s : State} {m : MethodId} {args : Array Value} {below : List Frame} {meth : Method} {c : Code} {G : Gw} {x0 : Nat} {x1 : Nat} {Φ : Hp → Int32 → Prop} (C0 : Mx p s m c cX6_doesAct 2 args yX6_doesAct.cls G) (Y : My meth (some .boolean))  : ∀ (S : Hp) (H : Heap) (locs : List Loc) (ls : Array Slot), wX6_doesAct_b0 x0 x1 Φ S → Ok G S H → va_S (Ab G.b) s.heap H locs → lv_has ls 2 [(0, .ref x0), (1, .ref x1)] → W p l e rm_X6_doesAct s m args below meth c H locs 0 0 (MQ below (gQ G (PI Φ)) args s rm_X6_doesAct.cells rm_X6_doesAct.slots (Ab G.b)) (F0 m 0 ls []) := by
  intro S H locs ls h hO hS hl
  unfold wX6_doesAct_b0 at h
  refine lv_aload_n C0.1 C0.2.1 dX6_doesAct_0 rfl (lv_at hl 1 rfl) ?_
  refine c_S C0 hO hS (mX6_has h) tb_376 tb_377 tb_33 tb_378 hd_X6_has rfl ⟨⟨by decide, by decide⟩, by decide, by decide⟩ hl.1 rfl (Nat.le_of_ble_eq_true rfl) dX6_doesAct_1 (kI (fun r2 S1 H locs h hO hS => ?_))
  refine lv_if_eq (tgt := 23) C0.1 C0.2.1 dX6_doesAct_4 (by decide) (fun c3 => ?_) (fun c3 => ?_)
  · have h := h.1 c3
    refine lv_iconst (v := 0) C0.1 C0.2.1 dX6_doesAct_23 (by decide) ?_
    exact e_Z C0 Y hO hS rfl h (Nat.le_refl _) (Nat.le_refl _) dX6_doesAct_24
  · have h := h.2 c3
    refine lv_aload_n C0.1 C0.2.1 dX6_doesAct_7 rfl (lv_at hl 0 rfl) ?_
    obtain ⟨i4, h⟩ := h
    obtain ⟨a5, ea5, h⟩ := h
    refine g6_4 C0 hO i4 ea5 tb_120 dX6_doesAct_8 ?_
    refine lv_aload_n C0.1 C0.2.1 dX6_doesAct_11 rfl (lv_at hl 1 rfl) ?_
    obtain ⟨i6, h⟩ := h
    refine g5_0 C0 hO i6 tb_596 dX6_doesAct_12 ?_
    obtain ⟨i7, h⟩ := h
    obtain ⟨e8, h⟩ := h
    refine r_zald C0 hO i7 e8 dX6_doesAct_15 ?_
    refine lv_if_eq (tgt := 23) C0.1 C0.2.1 dX6_doesAct_16 (by decide) (fun c9 => ?_) (fun c9 => ?_)
    · have h := h.1 c9
      refine lv_iconst (v := 0) C0.1 C0.2.1 dX6_doesAct_23 (by decide) ?_
      exact e_Z C0 Y hO hS rfl h (Nat.le_refl _) (Nat.le_refl _) dX6_doesAct_24
    · have h := h.2 c9
      refine lv_iconst (v := 1) C0.1 C0.2.1 dX6_doesAct_19 (by decide) ?_
      refine lv_goto (tgt := 24) C0.1 C0.2.1 dX6_doesAct_20 (by decide) ?_
      exact e_Z C0 Y hO hS rfl h (Nat.le_refl _) (Nat.le_refl _) dX6_doesAct_24
def wX6_doesAct (S : Hp) (x0 : Nat) (x1 : Nat) (Φ : Hp → Int32 → Prop) : Prop := wX6_doesAct_b0 x0 x1 Φ S
set_option maxRecDepth 100000 in
theorem mX6_doesAct {l : Launch} {G : Gw} {S : Hp} {x0 : Nat} {x1 : Nat} {Φ : Hp → Int32 → Prop} (h : wX6_doesAct S x0 x1 Φ) : gM l yX6_doesAct cX6_doesAct 2 (some .boolean) rm_X6_doesAct [.ref x0, .ref x1] G S (PI Φ) := by
  unfold gM
  refine Met.ofW (cc := cX6_doesAct) (maxL := 2) (ret := (some .boolean)) (by decide) rfl ?_
  intro p e s m args below meth c s₁ B hml hv
  obtain ⟨rfl, hw⟩ := hv
  obtain ⟨C0, Y, hO⟩ := mx_of B hml hw
  have hS : va_S (Ab G.b) s.heap s.heap [] := va_S.rf
  have hl := lv_entry ([.ref x0, .ref x1]) (n := 2) (Nat.le_of_ble_eq_true rfl)
  rw [lg_entry_eq]
  generalize (lg_sl ([.ref x0, .ref x1]) ++ List.replicate (2 - (lg_sl ([.ref x0, .ref x1])).length) Slot.unset).toArray = ls at hl ⊢
  have hl : lv_has ls 2 [(0, .ref x0), (1, .ref x1)] := hl
  exact bX6_doesAct_b0 C0 Y S _ _ _ h hO hS hl

def rm_X6_setActs : Room := { frames := 1, cells := 0, slots := 0, locals := 20 }
def wX6_setActs_b0 (x0 : Nat) (x1 : Nat) (x2 : Int32) (Φ : Hp → Prop) (S : Hp) : Prop := wX6_has S x1 (fun S1 r2 => ((r2 = 0 → Φ S1) ∧ (¬ (r2 = 0) → isA S1 x0 6 ∧ ∃ a5, S1.FR 388 x0 = some a5 ∧ isA S1 x1 5 ∧ isA S1 a5 23 ∧ vp_in (S1.FI 320 x1) (S1.N a5) ∧ nb x2 ∧ ∀ S10, S10 = S1.setAI a5 ((S1.FI 320 x1).toNatClampNeg) x2 → Φ S10)))
set_option maxHeartbeats 4000000 in
set_option maxRecDepth 100000 in
theorem bX6_setActs_b0 {p : Program} {l : Launch} {e : Env} {s : State} {m : MethodId} {args : Array Value} {below : List Frame} {meth : Method} {c : Code} {G : Gw} {x0 : Nat} {x1 : Nat} {x2 : Int32} {Φ : Hp → Prop} (C0 : Mx p s m c cX6_setActs 3 args yX6_setActs.cls G) (Y : My meth none)  : ∀ (S : Hp) (H : Heap) (locs : List Loc) (ls : Array Slot), wX6_setActs_b0 x0 x1 x2 Φ S → Ok G S H → va_S (Ab G.b) s.heap H locs → lv_has ls 3 [(0, .ref x0), (1, .ref x1), (2, .int x2)] → W p l e rm_X6_setActs s m args below meth c H locs 0 0 (MQ below (gQ G (PV Φ)) args s rm_X6_setActs.cells rm_X6_setActs.slots (Ab G.b)) (F0 m 0 ls []) := by
  intro S H locs ls h hO hS hl
  unfold wX6_setActs_b0 at h
  refine lv_aload_n C0.1 C0.2.1 dX6_setActs_0 rfl (lv_at hl 1 rfl) ?_
  refine c_S C0 hO hS (mX6_has h) tb_376 tb_377 tb_33 tb_378 hd_X6_has rfl ⟨⟨by decide, by decide⟩, by decide, by decide⟩ hl.1 rfl (Nat.le_of_ble_eq_true rfl) dX6_setActs_1 (kI (fun r2 S1 H locs h hO hS => ?_))
  refine lv_if_eq (tgt := 17) C0.1 C0.2.1 dX6_setActs_4 (by decide) (fun c3 => ?_) (fun c3 => ?_)
  · have h := h.1 c3
    exact e_V C0 Y hO hS h (Nat.le_refl _) (Nat.le_refl _) dX6_setActs_17
  · have h := h.2 c3
    refine lv_aload_n C0.1 C0.2.1 dX6_setActs_7 rfl (lv_at hl 0 rfl) ?_
    obtain ⟨i4, h⟩ := h
    obtain ⟨a5, ea5, h⟩ := h
    refine g6_4 C0 hO i4 ea5 tb_120 dX6_setActs_8 ?_
    refine lv_aload_n C0.1 C0.2.1 dX6_setActs_11 rfl (lv_at hl 1 rfl) ?_
    obtain ⟨i6, h⟩ := h
    refine g5_0 C0 hO i6 tb_596 dX6_setActs_12 ?_
    refine lv_iload_n C0.1 C0.2.1 dX6_setActs_15 rfl (lv_at hl 2 rfl) ?_
    obtain ⟨i7, h⟩ := h
    obtain ⟨e8, h⟩ := h
    obtain ⟨e9, h⟩ := h
    refine r_zast C0 hO hS i7 e8 e9 dX6_setActs_16 (fun H locs hO hS => ?_)
    have h := h _ rfl
    exact e_V C0 Y hO hS h (Nat.le_refl _) (Nat.le_refl _) dX6_setActs_17
def wX6_setActs (S : Hp) (x0 : Nat) (x1 : Nat) (x2 : Int32) (Φ : Hp → Prop) : Prop := wX6_setActs_b0 x0 x1 x2 Φ S
set_option maxRecDepth 100000 in
theorem mX6_setActs {l : Launch} {G : Gw} {S : Hp} {x0 : Nat} {x1 : Nat} {x2 : Int32} {Φ : Hp → Prop} (h : wX6_setActs S x0 x1 x2 Φ) : gM l yX6_setActs cX6_setActs 3 none rm_X6_setActs [.ref x0, .ref x1, .int x2] G S (PV Φ) := by
  unfold gM
  refine Met.ofW (cc := cX6_setActs) (maxL := 3) (ret := none) (by decide) rfl ?_
  intro p e s m args below meth c s₁ B hml hv
  obtain ⟨rfl, hw⟩ := hv
  obtain ⟨C0, Y, hO⟩ := mx_of B hml hw
  have hS : va_S (Ab G.b) s.heap s.heap [] := va_S.rf
  have hl := lv_entry ([.ref x0, .ref x1, .int x2]) (n := 3) (Nat.le_of_ble_eq_true rfl)
  rw [lg_entry_eq]
  generalize (lg_sl ([.ref x0, .ref x1, .int x2]) ++ List.replicate (3 - (lg_sl ([.ref x0, .ref x1, .int x2])).length) Slot.unset).toArray = ls at hl ⊢
  have hl : lv_has ls 3 [(0, .ref x0), (1, .ref x1), (2, .int x2)] := hl
  exact bX6_setActs_b0 C0 Y S _ _ _ h hO hS hl

def rm_X6_begin : Room := { frames := 2, cells := 0, slots := 0, locals := 50 }
def wX6_begin_b0 (x0 : Nat) (x1 : Nat) (Φ : Hp → Prop) (S : Hp) : Prop := wX6_has S x1 (fun S1 r2 => ((r2 = 0 → Φ S1) ∧ (¬ (r2 = 0) → isA S1 x0 6 ∧ ∃ a5, S1.FR 388 x0 = some a5 ∧ isA S1 x1 5 ∧ wX5_doesAct S1 x1 (fun S7 r8 => isA S7 a5 23 ∧ vp_in (S1.FI 320 x1) (S7.N a5) ∧ nb r8 ∧ ∀ S12, S12 = S7.setAI a5 ((S1.FI 320 x1).toNatClampNeg) r8 → isA S12 x0 6 ∧ ∃ a14, S12.FR 387 x0 = some a14 ∧ isA S12 x1 5 ∧ ∃ a16, S12.FR 384 x0 = some a16 ∧ isA S12 a16 4 ∧ wX4_wholeTimes S12 a16 (S12.FI 322 x1) ((S12.FI 325 x1).toInt64) (fun S17 r18 => isA S17 a14 22 ∧ vp_in (S12.FI 320 x1) (S17.N a14) ∧ ∀ S22, S22 = S17.setAJ a14 ((S12.FI 320 x1).toNatClampNeg) r18 → Φ S22)))))
set_option maxHeartbeats 4000000 in
set_option maxRecDepth 100000 in
theorem bX6_begin_b0 {p : Program} {l : Launch} {e : Env} {s : State} {m : MethodId} {args : Array Value} {below : List Frame} {meth : Method} {c : Code} {G : Gw} {x0 : Nat} {x1 : Nat} {Φ : Hp → Prop} (C0 : Mx p s m c cX6_begin 2 args yX6_begin.cls G) (Y : My meth none)  : ∀ (S : Hp) (H : Heap) (locs : List Loc) (ls : Array Slot), wX6_begin_b0 x0 x1 Φ S → Ok G S H → va_S (Ab G.b) s.heap H locs → lv_has ls 2 [(0, .ref x0), (1, .ref x1)] → W p l e rm_X6_begin s m args below meth c H locs 0 0 (MQ below (gQ G (PV Φ)) args s rm_X6_begin.cells rm_X6_begin.slots (Ab G.b)) (F0 m 0 ls []) := by
  intro S H locs ls h hO hS hl
  unfold wX6_begin_b0 at h
  refine lv_aload_n C0.1 C0.2.1 dX6_begin_0 rfl (lv_at hl 1 rfl) ?_
  refine c_S C0 hO hS (mX6_has h) tb_376 tb_377 tb_33 tb_378 hd_X6_has rfl ⟨⟨by decide, by decide⟩, by decide, by decide⟩ hl.1 rfl (Nat.le_of_ble_eq_true rfl) dX6_begin_1 (kI (fun r2 S1 H locs h hO hS => ?_))
  refine lv_if_eq (tgt := 45) C0.1 C0.2.1 dX6_begin_4 (by decide) (fun c3 => ?_) (fun c3 => ?_)
  · have h := h.1 c3
    exact e_V C0 Y hO hS h (Nat.le_refl _) (Nat.le_refl _) dX6_begin_45
  · have h := h.2 c3
    refine lv_aload_n C0.1 C0.2.1 dX6_begin_7 rfl (lv_at hl 0 rfl) ?_
    obtain ⟨i4, h⟩ := h
    obtain ⟨a5, ea5, h⟩ := h
    refine g6_4 C0 hO i4 ea5 tb_120 dX6_begin_8 ?_
    refine lv_aload_n C0.1 C0.2.1 dX6_begin_11 rfl (lv_at hl 1 rfl) ?_
    obtain ⟨i6, h⟩ := h
    refine g5_0 C0 hO i6 tb_596 dX6_begin_12 ?_
    refine lv_aload_n C0.1 C0.2.1 dX6_begin_15 rfl (lv_at hl 1 rfl) ?_
    refine c_V C0 hO hS (mX5_doesAct h) i6 (by decide) rfl rfl tb_704 tb_705 tb_706 tb_48 tb_707 hd_X5_doesAct rfl ⟨⟨by decide, by decide⟩, by decide, by decide⟩ hl.1 rfl (Nat.le_of_ble_eq_true rfl) dX6_begin_16 (kI (fun r8 S7 H locs h hO hS => ?_))
    obtain ⟨i9, h⟩ := h
    obtain ⟨e10, h⟩ := h
    obtain ⟨e11, h⟩ := h
    refine r_zast C0 hO hS i9 e10 e11 dX6_begin_19 (fun H locs hO hS => ?_)
    have h := h _ rfl
    refine lv_aload_n C0.1 C0.2.1 dX6_begin_20 rfl (lv_at hl 0 rfl) ?_
    obtain ⟨i13, h⟩ := h
    obtain ⟨a14, ea14, h⟩ := h
    refine g6_3 C0 hO i13 ea14 tb_119 dX6_begin_21 ?_
    refine lv_aload_n C0.1 C0.2.1 dX6_begin_24 rfl (lv_at hl 1 rfl) ?_
    obtain ⟨i15, h⟩ := h
    refine g5_0 C0 hO i15 tb_596 dX6_begin_25 ?_
    refine lv_aload_n C0.1 C0.2.1 dX6_begin_28 rfl (lv_at hl 0 rfl) ?_
    obtain ⟨a16, ea16, h⟩ := h
    refine g6_0 C0 hO i13 ea16 tb_113 dX6_begin_29 ?_
    refine lv_aload_n C0.1 C0.2.1 dX6_begin_32 rfl (lv_at hl 1 rfl) ?_
    refine g5_2 C0 hO i15 tb_601 dX6_begin_33 ?_
    refine lv_aload_n C0.1 C0.2.1 dX6_begin_36 rfl (lv_at hl 1 rfl) ?_
    refine g5_5 C0 hO i15 tb_610 dX6_begin_37 ?_
    refine lv_i2l C0.1 C0.2.1 dX6_begin_40 rfl ?_
    obtain ⟨i19, h⟩ := h
    refine c_V C0 hO hS (mX4_wholeTimes h) i19 (by decide) rfl rfl tb_387 tb_388 tb_389 tb_31 tb_390 hd_X4_wholeTimes rfl ⟨⟨by decide, by decide⟩, by decide, by decide⟩ hl.1 rfl (Nat.le_of_ble_eq_true rfl) dX6_begin_41 (kJ (fun r18 S17 H locs h hO hS => ?_))
    obtain ⟨i20, h⟩ := h
    obtain ⟨e21, h⟩ := h
    refine r_last C0 hO hS i20 e21 dX6_begin_44 (fun H locs hO hS => ?_)
    have h := h _ rfl
    exact e_V C0 Y hO hS h (Nat.le_refl _) (Nat.le_refl _) dX6_begin_45
def wX6_begin (S : Hp) (x0 : Nat) (x1 : Nat) (Φ : Hp → Prop) : Prop := wX6_begin_b0 x0 x1 Φ S
set_option maxRecDepth 100000 in
theorem mX6_begin {l : Launch} {G : Gw} {S : Hp} {x0 : Nat} {x1 : Nat} {Φ : Hp → Prop} (h : wX6_begin S x0 x1 Φ) : gM l yX6_begin cX6_begin 2 none rm_X6_begin [.ref x0, .ref x1] G S (PV Φ) := by
  unfold gM
  refine Met.ofW (cc := cX6_begin) (maxL := 2) (ret := none) (by decide) rfl ?_
  intro p e s m args below meth c s₁ B hml hv
  obtain ⟨rfl, hw⟩ := hv
  obtain ⟨C0, Y, hO⟩ := mx_of B hml hw
  have hS : va_S (Ab G.b) s.heap s.heap [] := va_S.rf
  have hl := lv_entry ([.ref x0, .ref x1]) (n := 2) (Nat.le_of_ble_eq_true rfl)
  rw [lg_entry_eq]
  generalize (lg_sl ([.ref x0, .ref x1]) ++ List.replicate (2 - (lg_sl ([.ref x0, .ref x1])).length) Slot.unset).toArray = ls at hl ⊢
  have hl : lv_has ls 2 [(0, .ref x0), (1, .ref x1)] := hl
  exact bX6_begin_b0 C0 Y S _ _ _ h hO hS hl

def rm_X6_turnInput : Room := { frames := 2, cells := 0, slots := 0, locals := 82 }
def wX6_turnInput_b0 (x0 : Nat) (x1 : Int32) (x2 : Int32) (Φ : Hp → Prop) (S : Hp) : Prop := isA S x0 6 ∧ ∃ a2, S.FR 385 x0 = some a2 ∧ ∃ a3, S.FR 384 x0 = some a3 ∧ isA S a2 4 ∧ wX4_copyFrom S a2 a3 (fun S4 => isA S4 x0 6 ∧ ∃ a7, S4.FR 386 x0 = some a7 ∧ isA S4 a7 4 ∧ wX4_reset S4 a7 (fun S8 => isA S8 x0 6 ∧ ∃ a11, S8.FR 386 x0 = some a11 ∧ isA S8 a11 4 ∧ wX4_put S8 a11 x1 x2.toInt64 24 (fun S12 => isA S12 x0 6 ∧ ∃ a15, S12.FR 384 x0 = some a15 ∧ isA S12 a15 4 ∧ wX4_add S12 a15 x1 x2.toInt64 24 (fun S16 => Φ S16))))
set_option maxHeartbeats 4000000 in
set_option maxRecDepth 100000 in
theorem bX6_turnInput_b0 {p : Program} {l : Launch} {e : Env} {s : State} {m : MethodId} {args : Array Value} {below : List Frame} {meth : Method} {c : Code} {G : Gw} {x0 : Nat} {x1 : Int32} {x2 : Int32} {Φ : Hp → Prop} (C0 : Mx p s m c cX6_turnInput 3 args yX6_turnInput.cls G) (Y : My meth none)  : ∀ (S : Hp) (H : Heap) (locs : List Loc) (ls : Array Slot), wX6_turnInput_b0 x0 x1 x2 Φ S → Ok G S H → va_S (Ab G.b) s.heap H locs → lv_has ls 3 [(0, .ref x0), (1, .int x1), (2, .int x2)] → W p l e rm_X6_turnInput s m args below meth c H locs 0 0 (MQ below (gQ G (PV Φ)) args s rm_X6_turnInput.cells rm_X6_turnInput.slots (Ab G.b)) (F0 m 0 ls []) := by
  intro S H locs ls h hO hS hl
  unfold wX6_turnInput_b0 at h
  refine lv_aload_n C0.1 C0.2.1 dX6_turnInput_0 rfl (lv_at hl 0 rfl) ?_
  obtain ⟨i1, h⟩ := h
  obtain ⟨a2, ea2, h⟩ := h
  refine g6_1 C0 hO i1 ea2 tb_115 dX6_turnInput_1 ?_
  refine lv_aload_n C0.1 C0.2.1 dX6_turnInput_4 rfl (lv_at hl 0 rfl) ?_
  obtain ⟨a3, ea3, h⟩ := h
  refine g6_0 C0 hO i1 ea3 tb_113 dX6_turnInput_5 ?_
  obtain ⟨i5, h⟩ := h
  refine c_V C0 hO hS (mX4_copyFrom h) i5 (by decide) rfl rfl tb_327 tb_328 tb_329 tb_31 tb_330 hd_X4_copyFrom rfl ⟨⟨by decide, by decide⟩, by decide, by decide⟩ hl.1 rfl (Nat.le_of_ble_eq_true rfl) dX6_turnInput_8 (kV (fun S4 H locs h hO hS => ?_))
  refine lv_aload_n C0.1 C0.2.1 dX6_turnInput_11 rfl (lv_at hl 0 rfl) ?_
  obtain ⟨i6, h⟩ := h
  obtain ⟨a7, ea7, h⟩ := h
  refine g6_2 C0 hO i6 ea7 tb_117 dX6_turnInput_12 ?_
  obtain ⟨i9, h⟩ := h
  refine c_V C0 hO hS (mX4_reset h) i9 (by decide) rfl rfl tb_348 tb_349 tb_350 tb_31 tb_351 hd_X4_reset rfl ⟨⟨by decide, by decide⟩, by decide, by decide⟩ hl.1 rfl (Nat.le_of_ble_eq_true rfl) dX6_turnInput_15 (kV (fun S8 H locs h hO hS => ?_))
  refine lv_aload_n C0.1 C0.2.1 dX6_turnInput_18 rfl (lv_at hl 0 rfl) ?_
  obtain ⟨i10, h⟩ := h
  obtain ⟨a11, ea11, h⟩ := h
  refine g6_2 C0 hO i10 ea11 tb_117 dX6_turnInput_19 ?_
  refine lv_iload_n C0.1 C0.2.1 dX6_turnInput_22 rfl (lv_at hl 1 rfl) ?_
  refine lv_iload_n C0.1 C0.2.1 dX6_turnInput_23 rfl (lv_at hl 2 rfl) ?_
  refine lv_i2l C0.1 C0.2.1 dX6_turnInput_24 rfl ?_
  refine lv_ldc2 (v := 24) C0.1 C0.2.1 C0.2.2.2.1 (C0.2.2.2.2.1 _ tb_352) dX6_turnInput_25 ?_
  obtain ⟨i13, h⟩ := h
  refine c_V C0 hO hS (mX4_put h) i13 (by decide) rfl rfl tb_353 tb_354 tb_355 tb_31 tb_356 hd_X4_put rfl ⟨⟨by decide, by decide⟩, by decide, by decide⟩ hl.1 rfl (Nat.le_of_ble_eq_true rfl) dX6_turnInput_28 (kV (fun S12 H locs h hO hS => ?_))
  refine lv_aload_n C0.1 C0.2.1 dX6_turnInput_31 rfl (lv_at hl 0 rfl) ?_
  obtain ⟨i14, h⟩ := h
  obtain ⟨a15, ea15, h⟩ := h
  refine g6_0 C0 hO i14 ea15 tb_113 dX6_turnInput_32 ?_
  refine lv_iload_n C0.1 C0.2.1 dX6_turnInput_35 rfl (lv_at hl 1 rfl) ?_
  refine lv_iload_n C0.1 C0.2.1 dX6_turnInput_36 rfl (lv_at hl 2 rfl) ?_
  refine lv_i2l C0.1 C0.2.1 dX6_turnInput_37 rfl ?_
  refine lv_ldc2 (v := 24) C0.1 C0.2.1 C0.2.2.2.1 (C0.2.2.2.2.1 _ tb_352) dX6_turnInput_38 ?_
  obtain ⟨i17, h⟩ := h
  refine c_V C0 hO hS (mX4_add h) i17 (by decide) rfl rfl tb_364 tb_365 tb_366 tb_31 tb_367 hd_X4_add rfl ⟨⟨by decide, by decide⟩, by decide, by decide⟩ hl.1 rfl (Nat.le_of_ble_eq_true rfl) dX6_turnInput_41 (kV (fun S16 H locs h hO hS => ?_))
  exact e_V C0 Y hO hS h (Nat.le_refl _) (Nat.le_refl _) dX6_turnInput_44
def wX6_turnInput (S : Hp) (x0 : Nat) (x1 : Int32) (x2 : Int32) (Φ : Hp → Prop) : Prop := wX6_turnInput_b0 x0 x1 x2 Φ S
set_option maxRecDepth 100000 in
theorem mX6_turnInput {l : Launch} {G : Gw} {S : Hp} {x0 : Nat} {x1 : Int32} {x2 : Int32} {Φ : Hp → Prop} (h : wX6_turnInput S x0 x1 x2 Φ) : gM l yX6_turnInput cX6_turnInput 3 none rm_X6_turnInput [.ref x0, .int x1, .int x2] G S (PV Φ) := by
  unfold gM
  refine Met.ofW (cc := cX6_turnInput) (maxL := 3) (ret := none) (by decide) rfl ?_
  intro p e s m args below meth c s₁ B hml hv
  obtain ⟨rfl, hw⟩ := hv
  obtain ⟨C0, Y, hO⟩ := mx_of B hml hw
  have hS : va_S (Ab G.b) s.heap s.heap [] := va_S.rf
  have hl := lv_entry ([.ref x0, .int x1, .int x2]) (n := 3) (Nat.le_of_ble_eq_true rfl)
  rw [lg_entry_eq]
  generalize (lg_sl ([.ref x0, .int x1, .int x2]) ++ List.replicate (3 - (lg_sl ([.ref x0, .int x1, .int x2])).length) Slot.unset).toArray = ls at hl ⊢
  have hl : lv_has ls 3 [(0, .ref x0), (1, .int x1), (2, .int x2)] := hl
  exact bX6_turnInput_b0 C0 Y S _ _ _ h hO hS hl

def rm_X6_followRatchet : Room := { frames := 2, cells := 0, slots := 0, locals := 57 }
def wX6_followRatchet_b0 (x0 : Nat) (x1 : Nat) (Φ : Hp → Prop) (S : Hp) : Prop := isA S x0 6 ∧ ∃ a2, S.FR 384 x0 = some a2 ∧ isA S x1 5 ∧ isA S a2 4 ∧ wX4_wholeTimes S a2 (S.FI 322 x1) ((S.FI 325 x1).toInt64) (fun S4 r5 => wX6_has S4 x1 (fun S7 r8 => ((r8 = 0 → Φ S7) ∧ (¬ (r8 = 0) → isA S7 x0 6 ∧ ∃ a11, S7.FR 387 x0 = some a11 ∧ isA S7 x1 5 ∧ isA S7 a11 22 ∧ vp_in (S7.FI 320 x1) (S7.N a11) ∧ (((lg_cmp r5 (S7.AJ a11 ((S7.FI 320 x1).toNatClampNeg))) ≤ 0 → Φ S7) ∧ (¬ ((lg_cmp r5 (S7.AJ a11 ((S7.FI 320 x1).toNatClampNeg))) ≤ 0) → ∃ a16, S7.FR 386 x0 = some a16 ∧ ∃ a17, S7.FR 387 x0 = some a17 ∧ isA S7 a17 22 ∧ vp_in (S7.FI 320 x1) (S7.N a17) ∧ isA S7 a16 4 ∧ wX4_put S7 a16 (S7.FI 324 x1) (r5 - (S7.AJ a17 ((S7.FI 320 x1).toNatClampNeg))) ((S7.FI 325 x1).toInt64) (fun S20 => isA S20 x0 6 ∧ ∃ a23, S20.FR 387 x0 = some a23 ∧ isA S20 x1 5 ∧ isA S20 a23 22 ∧ vp_in (S20.FI 320 x1) (S20.N a23) ∧ ∀ S27, S27 = S20.setAJ a23 ((S20.FI 320 x1).toNatClampNeg) r5 → Φ S27)))))))
set_option maxHeartbeats 4000000 in
set_option maxRecDepth 100000 in
theorem bX6_followRatchet_b0 {p : Program} {l : Launch} {e : Env} {s : State} {m : MethodId} {args : Array Value} {below : List Frame} {meth : Method} {c : Code} {G : Gw} {x0 : Nat} {x1 : Nat} {Φ : Hp → Prop} (C0 : Mx p s m c cX6_followRatchet 4 args yX6_followRatchet.cls G) (Y : My meth none)  : ∀ (S : Hp) (H : Heap) (locs : List Loc) (ls : Array Slot), wX6_followRatchet_b0 x0 x1 Φ S → Ok G S H → va_S (Ab G.b) s.heap H locs → lv_has ls 4 [(0, .ref x0), (1, .ref x1)] → W p l e rm_X6_followRatchet s m args below meth c H locs 0 0 (MQ below (gQ G (PV Φ)) args s rm_X6_followRatchet.cells rm_X6_followRatchet.slots (Ab G.b)) (F0 m 0 ls []) := by
  intro S H locs ls h hO hS hl
  unfold wX6_followRatchet_b0 at h
  refine lv_aload_n C0.1 C0.2.1 dX6_followRatchet_0 rfl (lv_at hl 0 rfl) ?_
  obtain ⟨i1, h⟩ := h
  obtain ⟨a2, ea2, h⟩ := h
  refine g6_0 C0 hO i1 ea2 tb_113 dX6_followRatchet_1 ?_
  refine lv_aload_n C0.1 C0.2.1 dX6_followRatchet_4 rfl (lv_at hl 1 rfl) ?_
  obtain ⟨i3, h⟩ := h
  refine g5_2 C0 hO i3 tb_601 dX6_followRatchet_5 ?_
  refine lv_aload_n C0.1 C0.2.1 dX6_followRatchet_8 rfl (lv_at hl 1 rfl) ?_
  refine g5_5 C0 hO i3 tb_610 dX6_followRatchet_9 ?_
  refine lv_i2l C0.1 C0.2.1 dX6_followRatchet_12 rfl ?_
  obtain ⟨i6, h⟩ := h
  refine c_V C0 hO hS (mX4_wholeTimes h) i6 (by decide) rfl rfl tb_387 tb_388 tb_389 tb_31 tb_390 hd_X4_wholeTimes rfl ⟨⟨by decide, by decide⟩, by decide, by decide⟩ hl.1 rfl (Nat.le_of_ble_eq_true rfl) dX6_followRatchet_13 (kJ (fun r5 S4 H locs h hO hS => ?_))
  refine lv_lstore_n C0.1 C0.2.1 dX6_followRatchet_16 rfl hl (by decide) rfl (fun ls hl => ?_)
  refine lv_aload_n C0.1 C0.2.1 dX6_followRatchet_17 rfl (lv_at hl 2 rfl) ?_
  refine c_S C0 hO hS (mX6_has h) tb_376 tb_377 tb_33 tb_378 hd_X6_has rfl ⟨⟨by decide, by decide⟩, by decide, by decide⟩ hl.1 rfl (Nat.le_of_ble_eq_true rfl) dX6_followRatchet_18 (kI (fun r8 S7 H locs h hO hS => ?_))
  refine lv_if_eq (tgt := 75) C0.1 C0.2.1 dX6_followRatchet_21 (by decide) (fun c9 => ?_) (fun c9 => ?_)
  · have h := h.1 c9
    exact e_V C0 Y hO hS h (Nat.le_refl _) (Nat.le_refl _) dX6_followRatchet_75
  · have h := h.2 c9
    refine lv_lload_n C0.1 C0.2.1 dX6_followRatchet_24 rfl (lv_at hl 0 rfl) ?_
    refine lv_aload_n C0.1 C0.2.1 dX6_followRatchet_25 rfl (lv_at hl 1 rfl) ?_
    obtain ⟨i10, h⟩ := h
    obtain ⟨a11, ea11, h⟩ := h
    refine g6_3 C0 hO i10 ea11 tb_119 dX6_followRatchet_26 ?_
    refine lv_aload_n C0.1 C0.2.1 dX6_followRatchet_29 rfl (lv_at hl 2 rfl) ?_
    obtain ⟨i12, h⟩ := h
    refine g5_0 C0 hO i12 tb_596 dX6_followRatchet_30 ?_
    obtain ⟨i13, h⟩ := h
    obtain ⟨e14, h⟩ := h
    refine r_lald C0 hO i13 e14 dX6_followRatchet_33 ?_
    refine W.lcmp C0.1 C0.2.1 dX6_followRatchet_34 ?_
    refine lv_if_le (tgt := 75) C0.1 C0.2.1 dX6_followRatchet_35 (by decide) (fun c15 => ?_) (fun c15 => ?_)
    · have h := h.1 c15
      exact e_V C0 Y hO hS h (Nat.le_refl _) (Nat.le_refl _) dX6_followRatchet_75
    · have h := h.2 c15
      refine lv_aload_n C0.1 C0.2.1 dX6_followRatchet_38 rfl (lv_at hl 1 rfl) ?_
      obtain ⟨a16, ea16, h⟩ := h
      refine g6_2 C0 hO i10 ea16 tb_117 dX6_followRatchet_39 ?_
      refine lv_aload_n C0.1 C0.2.1 dX6_followRatchet_42 rfl (lv_at hl 2 rfl) ?_
      refine g5_4 C0 hO i12 tb_607 dX6_followRatchet_43 ?_
      refine lv_lload_n C0.1 C0.2.1 dX6_followRatchet_46 rfl (lv_at hl 0 rfl) ?_
      refine lv_aload_n C0.1 C0.2.1 dX6_followRatchet_47 rfl (lv_at hl 1 rfl) ?_
      obtain ⟨a17, ea17, h⟩ := h
      refine g6_3 C0 hO i10 ea17 tb_119 dX6_followRatchet_48 ?_
      refine lv_aload_n C0.1 C0.2.1 dX6_followRatchet_51 rfl (lv_at hl 2 rfl) ?_
      refine g5_0 C0 hO i12 tb_596 dX6_followRatchet_52 ?_
      obtain ⟨i18, h⟩ := h
      obtain ⟨e19, h⟩ := h
      refine r_lald C0 hO i18 e19 dX6_followRatchet_55 ?_
      refine lv_lsub C0.1 C0.2.1 dX6_followRatchet_56 ?_
      refine lv_aload_n C0.1 C0.2.1 dX6_followRatchet_57 rfl (lv_at hl 2 rfl) ?_
      refine g5_5 C0 hO i12 tb_610 dX6_followRatchet_58 ?_
      refine lv_i2l C0.1 C0.2.1 dX6_followRatchet_61 rfl ?_
      obtain ⟨i21, h⟩ := h
      refine c_V C0 hO hS (mX4_put h) i21 (by decide) rfl rfl tb_353 tb_354 tb_355 tb_31 tb_356 hd_X4_put rfl ⟨⟨by decide, by decide⟩, by decide, by decide⟩ hl.1 rfl (Nat.le_of_ble_eq_true rfl) dX6_followRatchet_62 (kV (fun S20 H locs h hO hS => ?_))
      refine lv_aload_n C0.1 C0.2.1 dX6_followRatchet_65 rfl (lv_at hl 1 rfl) ?_
      obtain ⟨i22, h⟩ := h
      obtain ⟨a23, ea23, h⟩ := h
      refine g6_3 C0 hO i22 ea23 tb_119 dX6_followRatchet_66 ?_
      refine lv_aload_n C0.1 C0.2.1 dX6_followRatchet_69 rfl (lv_at hl 2 rfl) ?_
      obtain ⟨i24, h⟩ := h
      refine g5_0 C0 hO i24 tb_596 dX6_followRatchet_70 ?_
      refine lv_lload_n C0.1 C0.2.1 dX6_followRatchet_73 rfl (lv_at hl 0 rfl) ?_
      obtain ⟨i25, h⟩ := h
      obtain ⟨e26, h⟩ := h
      refine r_last C0 hO hS i25 e26 dX6_followRatchet_74 (fun H locs hO hS => ?_)
      have h := h _ rfl
      exact e_V C0 Y hO hS h (Nat.le_refl _) (Nat.le_refl _) dX6_followRatchet_75
def wX6_followRatchet (S : Hp) (x0 : Nat) (x1 : Nat) (Φ : Hp → Prop) : Prop := wX6_followRatchet_b0 x0 x1 Φ S
set_option maxRecDepth 100000 in
theorem mX6_followRatchet {l : Launch} {G : Gw} {S : Hp} {x0 : Nat} {x1 : Nat} {Φ : Hp → Prop} (h : wX6_followRatchet S x0 x1 Φ) : gM l yX6_followRatchet cX6_followRatchet 4 none rm_X6_followRatchet [.ref x0, .ref x1] G S (PV Φ) := by
  unfold gM
  refine Met.ofW (cc := cX6_followRatchet) (maxL := 4) (ret := none) (by decide) rfl ?_
  intro p e s m args below meth c s₁ B hml hv
  obtain ⟨rfl, hw⟩ := hv
  obtain ⟨C0, Y, hO⟩ := mx_of B hml hw
  have hS : va_S (Ab G.b) s.heap s.heap [] := va_S.rf
  have hl := lv_entry ([.ref x0, .ref x1]) (n := 4) (Nat.le_of_ble_eq_true rfl)
  rw [lg_entry_eq]
  generalize (lg_sl ([.ref x0, .ref x1]) ++ List.replicate (4 - (lg_sl ([.ref x0, .ref x1])).length) Slot.unset).toArray = ls at hl ⊢
  have hl : lv_has ls 4 [(0, .ref x0), (1, .ref x1)] := hl
  exact bX6_followRatchet_b0 C0 Y S _ _ _ h hO hS hl

def rm_X6_follow : Room := { frames := 3, cells := 0, slots := 0, locals := 87 }
def wX6_follow_b119 (x0 : Nat) (x1 : Nat) (Φ : Hp → Prop) (S : Hp) : Prop := isA S x0 6 ∧ ∃ a2, S.FR 384 x0 = some a2 ∧ isA S x1 5 ∧ ∃ a4, S.FR 386 x0 = some a4 ∧ isA S a4 4 ∧ wX4_overAt S a4 (S.FI 324 x1) (fun S5 r6 => isA S5 x0 6 ∧ ∃ a9, S5.FR 386 x0 = some a9 ∧ isA S5 x1 5 ∧ isA S5 a9 4 ∧ wX4_underAt S5 a9 (S5.FI 324 x1) (fun S11 r12 => isA S11 a2 4 ∧ wX4_add S11 a2 (S.FI 324 x1) r6 r12 (fun S14 => Φ S14)))
set_option maxHeartbeats 4000000 in
set_option maxRecDepth 100000 in
theorem bX6_follow_b119 {p : Program} {l : Launch} {e : Env} {s : State} {m : MethodId} {args : Array Value} {below : List Frame} {meth : Method} {c : Code} {G : Gw} {x0 : Nat} {x1 : Nat} {Φ : Hp → Prop} (C0 : Mx p s m c cX6_follow 2 args yX6_follow.cls G) (Y : My meth none)  : ∀ (S : Hp) (H : Heap) (locs : List Loc) (ls : Array Slot), wX6_follow_b119 x0 x1 Φ S → Ok G S H → va_S (Ab G.b) s.heap H locs → lv_has ls 2 [(0, .ref x0), (1, .ref x1)] → W p l e rm_X6_follow s m args below meth c H locs 0 0 (MQ below (gQ G (PV Φ)) args s rm_X6_follow.cells rm_X6_follow.slots (Ab G.b)) (F0 m 119 ls []) := by
  intro S H locs ls h hO hS hl
  unfold wX6_follow_b119 at h
  refine lv_aload_n C0.1 C0.2.1 dX6_follow_119 rfl (lv_at hl 0 rfl) ?_
  obtain ⟨i1, h⟩ := h
  obtain ⟨a2, ea2, h⟩ := h
  refine g6_0 C0 hO i1 ea2 tb_113 dX6_follow_120 ?_
  refine lv_aload_n C0.1 C0.2.1 dX6_follow_123 rfl (lv_at hl 1 rfl) ?_
  obtain ⟨i3, h⟩ := h
  refine g5_4 C0 hO i3 tb_607 dX6_follow_124 ?_
  refine lv_aload_n C0.1 C0.2.1 dX6_follow_127 rfl (lv_at hl 0 rfl) ?_
  obtain ⟨a4, ea4, h⟩ := h
  refine g6_2 C0 hO i1 ea4 tb_117 dX6_follow_128 ?_
  refine lv_aload_n C0.1 C0.2.1 dX6_follow_131 rfl (lv_at hl 1 rfl) ?_
  refine g5_4 C0 hO i3 tb_607 dX6_follow_132 ?_
  obtain ⟨i7, h⟩ := h
  refine c_V C0 hO hS (mX4_overAt h) i7 (by decide) rfl rfl tb_423 tb_384 tb_385 tb_31 tb_386 hd_X4_overAt rfl ⟨⟨by decide, by decide⟩, by decide, by decide⟩ hl.1 rfl (Nat.le_of_ble_eq_true rfl) dX6_follow_135 (kJ (fun r6 S5 H locs h hO hS => ?_))
  refine lv_aload_n C0.1 C0.2.1 dX6_follow_138 rfl (lv_at hl 0 rfl) ?_
  obtain ⟨i8, h⟩ := h
  obtain ⟨a9, ea9, h⟩ := h
  refine g6_2 C0 hO i8 ea9 tb_117 dX6_follow_139 ?_
  refine lv_aload_n C0.1 C0.2.1 dX6_follow_142 rfl (lv_at hl 1 rfl) ?_
  obtain ⟨i10, h⟩ := h
  refine g5_4 C0 hO i10 tb_607 dX6_follow_143 ?_
  obtain ⟨i13, h⟩ := h
  refine c_V C0 hO hS (mX4_underAt h) i13 (by decide) rfl rfl tb_424 tb_411 tb_412 tb_31 tb_413 hd_X4_underAt rfl ⟨⟨by decide, by decide⟩, by decide, by decide⟩ hl.1 rfl (Nat.le_of_ble_eq_true rfl) dX6_follow_146 (kJ (fun r12 S11 H locs h hO hS => ?_))
  obtain ⟨i15, h⟩ := h
  refine c_V C0 hO hS (mX4_add h) i15 (by decide) rfl rfl tb_364 tb_365 tb_366 tb_31 tb_367 hd_X4_add rfl ⟨⟨by decide, by decide⟩, by decide, by decide⟩ hl.1 rfl (Nat.le_of_ble_eq_true rfl) dX6_follow_149 (kV (fun S14 H locs h hO hS => ?_))
  exact e_V C0 Y hO hS h (Nat.le_refl _) (Nat.le_refl _) dX6_follow_152
def wX6_follow_b37 (x0 : Nat) (x1 : Nat) (Φ : Hp → Prop) (S : Hp) : Prop := isA S x1 5 ∧ ((¬ (S.FI 321 x1) = 118 → ((¬ (S.FI 321 x1) = 114 → isA S x0 6 ∧ ∃ a5, S.FR 386 x0 = some a5 ∧ wX5_over S x1 (fun S6 r7 => isA S6 x1 5 ∧ wX5_carry S6 x1 a5 r7 (fun S8 => wX6_follow_b119 x0 x1 Φ S8))) ∧ ((S.FI 321 x1) = 114 → isA S x0 6 ∧ wX6_followRatchet S x0 x1 (fun S10 => wX6_follow_b119 x0 x1 Φ S10)))) ∧ ((S.FI 321 x1) = 118 → isA S x0 6 ∧ ∃ a13, S.FR 386 x0 = some a13 ∧ ∃ a14, S.FR 384 x0 = some a14 ∧ isA S a14 4 ∧ wX4_wholeTimes S a14 (S.FI 322 x1) 1 (fun S15 r16 => isA S15 x0 6 ∧ ∃ a19, S15.FR 385 x0 = some a19 ∧ isA S15 x1 5 ∧ isA S15 a19 4 ∧ wX4_wholeTimes S15 a19 (S15.FI 322 x1) 1 (fun S21 r22 => isA S21 x1 5 ∧ isA S21 a13 4 ∧ wX4_put S21 a13 (S.FI 324 x1) (r16 - r22) ((S21.FI 325 x1).toInt64) (fun S25 => wX6_follow_b119 x0 x1 Φ S25)))))
set_option maxHeartbeats 4000000 in
set_option maxRecDepth 100000 in
theorem bX6_follow_b37 {p : Program} {l : Launch} {e : Env} {s : State} {m : MethodId} {args : Array Value} {below : List Frame} {meth : Method} {c : Code} {G : Gw} {x0 : Nat} {x1 : Nat} {Φ : Hp → Prop} (C0 : Mx p s m c cX6_follow 2 args yX6_follow.cls G) (Y : My meth none)  : ∀ (S : Hp) (H : Heap) (locs : List Loc) (ls : Array Slot), wX6_follow_b37 x0 x1 Φ S → Ok G S H → va_S (Ab G.b) s.heap H locs → lv_has ls 2 [(0, .ref x0), (1, .ref x1)] → W p l e rm_X6_follow s m args below meth c H locs 0 0 (MQ below (gQ G (PV Φ)) args s rm_X6_follow.cells rm_X6_follow.slots (Ab G.b)) (F0 m 37 ls []) := by
  intro S H locs ls h hO hS hl
  unfold wX6_follow_b37 at h
  refine lv_aload_n C0.1 C0.2.1 dX6_follow_37 rfl (lv_at hl 1 rfl) ?_
  obtain ⟨i1, h⟩ := h
  refine g5_1 C0 hO i1 tb_599 dX6_follow_38 ?_
  refine lv_bipush (v := 118) C0.1 C0.2.1 dX6_follow_41 (by decide) ?_
  refine lv_icmp_ne (tgt := 90) C0.1 C0.2.1 dX6_follow_43 (by decide) (fun c2 => ?_) (fun c2 => ?_)
  · have h := h.1 c2
    refine lv_aload_n C0.1 C0.2.1 dX6_follow_90 rfl (lv_at hl 1 rfl) ?_
    refine g5_1 C0 hO i1 tb_599 dX6_follow_91 ?_
    refine lv_bipush (v := 114) C0.1 C0.2.1 dX6_follow_94 (by decide) ?_
    refine lv_icmp_ne (tgt := 107) C0.1 C0.2.1 dX6_follow_96 (by decide) (fun c3 => ?_) (fun c3 => ?_)
    · have h := h.1 c3
      refine lv_aload_n C0.1 C0.2.1 dX6_follow_107 rfl (lv_at hl 1 rfl) ?_
      refine lv_aload_n C0.1 C0.2.1 dX6_follow_108 rfl (lv_at hl 0 rfl) ?_
      obtain ⟨i4, h⟩ := h
      obtain ⟨a5, ea5, h⟩ := h
      refine g6_2 C0 hO i4 ea5 tb_117 dX6_follow_109 ?_
      refine lv_aload_n C0.1 C0.2.1 dX6_follow_112 rfl (lv_at hl 1 rfl) ?_
      refine c_V C0 hO hS (mX5_over h) i1 (by decide) rfl rfl tb_401 tb_402 tb_403 tb_48 tb_404 hd_X5_over rfl ⟨⟨by decide, by decide⟩, by decide, by decide⟩ hl.1 rfl (Nat.le_of_ble_eq_true rfl) dX6_follow_113 (kI (fun r7 S6 H locs h hO hS => ?_))
      obtain ⟨i9, h⟩ := h
      refine c_V C0 hO hS (mX5_carry h) i9 (by decide) rfl rfl tb_405 tb_406 tb_407 tb_48 tb_408 hd_X5_carry rfl ⟨⟨by decide, by decide⟩, by decide, by decide⟩ hl.1 rfl (Nat.le_of_ble_eq_true rfl) dX6_follow_116 (kV (fun S8 H locs h hO hS => ?_))
      exact bX6_follow_b119 C0 Y _ _ _ _ h hO hS (lv_sub hl [0, 1] rfl)
    · have h := h.2 c3
      refine lv_aload_n C0.1 C0.2.1 dX6_follow_99 rfl (lv_at hl 0 rfl) ?_
      refine lv_aload_n C0.1 C0.2.1 dX6_follow_100 rfl (lv_at hl 1 rfl) ?_
      obtain ⟨i11, h⟩ := h
      refine c_V C0 hO hS (mX6_followRatchet h) i11 (by decide) rfl rfl tb_397 tb_399 tb_7 tb_33 tb_400 hd_X6_followRatchet rfl ⟨⟨by decide, by decide⟩, by decide, by decide⟩ hl.1 rfl (Nat.le_of_ble_eq_true rfl) dX6_follow_101 (kV (fun S10 H locs h hO hS => ?_))
      refine lv_goto (tgt := 119) C0.1 C0.2.1 dX6_follow_104 (by decide) ?_
      exact bX6_follow_b119 C0 Y _ _ _ _ h hO hS (lv_sub hl [0, 1] rfl)
  · have h := h.2 c2
    refine lv_aload_n C0.1 C0.2.1 dX6_follow_46 rfl (lv_at hl 0 rfl) ?_
    obtain ⟨i12, h⟩ := h
    obtain ⟨a13, ea13, h⟩ := h
    refine g6_2 C0 hO i12 ea13 tb_117 dX6_follow_47 ?_
    refine lv_aload_n C0.1 C0.2.1 dX6_follow_50 rfl (lv_at hl 1 rfl) ?_
    refine g5_4 C0 hO i1 tb_607 dX6_follow_51 ?_
    refine lv_aload_n C0.1 C0.2.1 dX6_follow_54 rfl (lv_at hl 0 rfl) ?_
    obtain ⟨a14, ea14, h⟩ := h
    refine g6_0 C0 hO i12 ea14 tb_113 dX6_follow_55 ?_
    refine lv_aload_n C0.1 C0.2.1 dX6_follow_58 rfl (lv_at hl 1 rfl) ?_
    refine g5_2 C0 hO i1 tb_601 dX6_follow_59 ?_
    refine lv_lconst (v := 1) C0.1 C0.2.1 dX6_follow_62 (by decide) ?_
    obtain ⟨i17, h⟩ := h
    refine c_V C0 hO hS (mX4_wholeTimes h) i17 (by decide) rfl rfl tb_387 tb_388 tb_389 tb_31 tb_390 hd_X4_wholeTimes rfl ⟨⟨by decide, by decide⟩, by decide, by decide⟩ hl.1 rfl (Nat.le_of_ble_eq_true rfl) dX6_follow_63 (kJ (fun r16 S15 H locs h hO hS => ?_))
    refine lv_aload_n C0.1 C0.2.1 dX6_follow_66 rfl (lv_at hl 0 rfl) ?_
    obtain ⟨i18, h⟩ := h
    obtain ⟨a19, ea19, h⟩ := h
    refine g6_1 C0 hO i18 ea19 tb_115 dX6_follow_67 ?_
    refine lv_aload_n C0.1 C0.2.1 dX6_follow_70 rfl (lv_at hl 1 rfl) ?_
    obtain ⟨i20, h⟩ := h
    refine g5_2 C0 hO i20 tb_601 dX6_follow_71 ?_
    refine lv_lconst (v := 1) C0.1 C0.2.1 dX6_follow_74 (by decide) ?_
    obtain ⟨i23, h⟩ := h
    refine c_V C0 hO hS (mX4_wholeTimes h) i23 (by decide) rfl rfl tb_387 tb_388 tb_389 tb_31 tb_390 hd_X4_wholeTimes rfl ⟨⟨by decide, by decide⟩, by decide, by decide⟩ hl.1 rfl (Nat.le_of_ble_eq_true rfl) dX6_follow_75 (kJ (fun r22 S21 H locs h hO hS => ?_))
    refine lv_lsub C0.1 C0.2.1 dX6_follow_78 ?_
    refine lv_aload_n C0.1 C0.2.1 dX6_follow_79 rfl (lv_at hl 1 rfl) ?_
    obtain ⟨i24, h⟩ := h
    refine g5_5 C0 hO i24 tb_610 dX6_follow_80 ?_
    refine lv_i2l C0.1 C0.2.1 dX6_follow_83 rfl ?_
    obtain ⟨i26, h⟩ := h
    refine c_V C0 hO hS (mX4_put h) i26 (by decide) rfl rfl tb_353 tb_354 tb_355 tb_31 tb_356 hd_X4_put rfl ⟨⟨by decide, by decide⟩, by decide, by decide⟩ hl.1 rfl (Nat.le_of_ble_eq_true rfl) dX6_follow_84 (kV (fun S25 H locs h hO hS => ?_))
    refine lv_goto (tgt := 119) C0.1 C0.2.1 dX6_follow_87 (by decide) ?_
    exact bX6_follow_b119 C0 Y _ _ _ _ h hO hS (lv_sub hl [0, 1] rfl)
def wX6_follow_b0 (x0 : Nat) (x1 : Nat) (Φ : Hp → Prop) (S : Hp) : Prop := isA S x0 6 ∧ wX6_doesAct S x0 x1 (fun S1 r2 => ((r2 = 0 → Φ S1) ∧ (¬ (r2 = 0) → isA S1 x0 6 ∧ ∃ a6, S1.FR 386 x0 = some a6 ∧ isA S1 x1 5 ∧ isA S1 a6 4 ∧ wX4_isMoving S1 a6 (S1.FI 322 x1) (fun S8 r9 => ((¬ r9 = 0 → wX6_follow_b37 x0 x1 Φ S8) ∧ (r9 = 0 → isA S8 x0 6 ∧ ∃ a13, S8.FR 386 x0 = some a13 ∧ isA S8 x1 5 ∧ isA S8 a13 4 ∧ wX4_isMoving S8 a13 (S8.FI 323 x1) (fun S15 r16 => ((¬ r16 = 0 → wX6_follow_b37 x0 x1 Φ S15) ∧ (r16 = 0 → Φ S15)))))))))
set_option maxHeartbeats 4000000 in
set_option maxRecDepth 100000 in
theorem bX6_follow_b0 {p : Program} {l : Launch} {e : Env} {s : State} {m : MethodId} {args : Array Value} {below : List Frame} {meth : Method} {c : Code} {G : Gw} {x0 : Nat} {x1 : Nat} {Φ : Hp → Prop} (C0 : Mx p s m c cX6_follow 2 args yX6_follow.cls G) (Y : My meth none)  : ∀ (S : Hp) (H : Heap) (locs : List Loc) (ls : Array Slot), wX6_follow_b0 x0 x1 Φ S → Ok G S H → va_S (Ab G.b) s.heap H locs → lv_has ls 2 [(0, .ref x0), (1, .ref x1)] → W p l e rm_X6_follow s m args below meth c H locs 0 0 (MQ below (gQ G (PV Φ)) args s rm_X6_follow.cells rm_X6_follow.slots (Ab G.b)) (F0 m 0 ls []) := by
  intro S H locs ls h hO hS hl
  unfold wX6_follow_b0 at h
  refine lv_aload_n C0.1 C0.2.1 dX6_follow_0 rfl (lv_at hl 0 rfl) ?_
  refine lv_aload_n C0.1 C0.2.1 dX6_follow_1 rfl (lv_at hl 1 rfl) ?_
  obtain ⟨i3, h⟩ := h
  refine c_V C0 hO hS (mX6_doesAct h) i3 (by decide) rfl rfl tb_372 tb_373 tb_374 tb_33 tb_375 hd_X6_doesAct rfl ⟨⟨by decide, by decide⟩, by decide, by decide⟩ hl.1 rfl (Nat.le_of_ble_eq_true rfl) dX6_follow_2 (kI (fun r2 S1 H locs h hO hS => ?_))
  refine lv_if_eq (tgt := 36) C0.1 C0.2.1 dX6_follow_5 (by decide) (fun c4 => ?_) (fun c4 => ?_)
  · have h := h.1 c4
    exact e_V C0 Y hO hS h (Nat.le_refl _) (Nat.le_refl _) dX6_follow_36
  · have h := h.2 c4
    refine lv_aload_n C0.1 C0.2.1 dX6_follow_8 rfl (lv_at hl 0 rfl) ?_
    obtain ⟨i5, h⟩ := h
    obtain ⟨a6, ea6, h⟩ := h
    refine g6_2 C0 hO i5 ea6 tb_117 dX6_follow_9 ?_
    refine lv_aload_n C0.1 C0.2.1 dX6_follow_12 rfl (lv_at hl 1 rfl) ?_
    obtain ⟨i7, h⟩ := h
    refine g5_2 C0 hO i7 tb_601 dX6_follow_13 ?_
    obtain ⟨i10, h⟩ := h
    refine c_V C0 hO hS (mX4_isMoving h) i10 (by decide) rfl rfl tb_379 tb_380 tb_381 tb_31 tb_382 hd_X4_isMoving rfl ⟨⟨by decide, by decide⟩, by decide, by decide⟩ hl.1 rfl (Nat.le_of_ble_eq_true rfl) dX6_follow_16 (kI (fun r9 S8 H locs h hO hS => ?_))
    refine lv_if_ne (tgt := 37) C0.1 C0.2.1 dX6_follow_19 (by decide) (fun c11 => ?_) (fun c11 => ?_)
    · have h := h.1 c11
      exact bX6_follow_b37 C0 Y _ _ _ _ h hO hS (lv_sub hl [0, 1] rfl)
    · have h := h.2 c11
      refine lv_aload_n C0.1 C0.2.1 dX6_follow_22 rfl (lv_at hl 0 rfl) ?_
      obtain ⟨i12, h⟩ := h
      obtain ⟨a13, ea13, h⟩ := h
      refine g6_2 C0 hO i12 ea13 tb_117 dX6_follow_23 ?_
      refine lv_aload_n C0.1 C0.2.1 dX6_follow_26 rfl (lv_at hl 1 rfl) ?_
      obtain ⟨i14, h⟩ := h
      refine g5_3 C0 hO i14 tb_604 dX6_follow_27 ?_
      obtain ⟨i17, h⟩ := h
      refine c_V C0 hO hS (mX4_isMoving h) i17 (by decide) rfl rfl tb_379 tb_380 tb_381 tb_31 tb_382 hd_X4_isMoving rfl ⟨⟨by decide, by decide⟩, by decide, by decide⟩ hl.1 rfl (Nat.le_of_ble_eq_true rfl) dX6_follow_30 (kI (fun r16 S15 H locs h hO hS => ?_))
      refine lv_if_ne (tgt := 37) C0.1 C0.2.1 dX6_follow_33 (by decide) (fun c18 => ?_) (fun c18 => ?_)
      · have h := h.1 c18
        exact bX6_follow_b37 C0 Y _ _ _ _ h hO hS (lv_sub hl [0, 1] rfl)
      · have h := h.2 c18
        exact e_V C0 Y hO hS h (Nat.le_refl _) (Nat.le_refl _) dX6_follow_36
def wX6_follow (S : Hp) (x0 : Nat) (x1 : Nat) (Φ : Hp → Prop) : Prop := wX6_follow_b0 x0 x1 Φ S
set_option maxRecDepth 100000 in
theorem mX6_follow {l : Launch} {G : Gw} {S : Hp} {x0 : Nat} {x1 : Nat} {Φ : Hp → Prop} (h : wX6_follow S x0 x1 Φ) : gM l yX6_follow cX6_follow 2 none rm_X6_follow [.ref x0, .ref x1] G S (PV Φ) := by
  unfold gM
  refine Met.ofW (cc := cX6_follow) (maxL := 2) (ret := none) (by decide) rfl ?_
  intro p e s m args below meth c s₁ B hml hv
  obtain ⟨rfl, hw⟩ := hv
  obtain ⟨C0, Y, hO⟩ := mx_of B hml hw
  have hS : va_S (Ab G.b) s.heap s.heap [] := va_S.rf
  have hl := lv_entry ([.ref x0, .ref x1]) (n := 2) (Nat.le_of_ble_eq_true rfl)
  rw [lg_entry_eq]
  generalize (lg_sl ([.ref x0, .ref x1]) ++ List.replicate (2 - (lg_sl ([.ref x0, .ref x1])).length) Slot.unset).toArray = ls at hl ⊢
  have hl : lv_has ls 2 [(0, .ref x0), (1, .ref x1)] := hl
  exact bX6_follow_b0 C0 Y S _ _ _ h hO hS hl
