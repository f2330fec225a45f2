def rm_X3_commonOf : Room := { frames := 0, cells := 0, slots := 0, locals := 0 }
def wX3_commonOf_b31 (x0 : Int64) (x2 : Int64) (Φ : Hp → Int64 → Prop) (k31 : Hp → Int64 → Int64 → Int32 → Prop) (S : Hp) (v4 : Int64) (v6 : Int64) (v8 : Int32) : Prop := ((200 ≤ v8 → Φ S v4) ∧ (¬ (200 ≤ v8) → (((lg_cmp v6 0) = 0 → Φ S v4) ∧ (¬ ((lg_cmp v6 0) = 0) → ¬ v6 = 0 ∧ k31 S v6 (v4 - v4 / v6 * v6) (v8 + 1)))))
set_option maxHeartbeats 4000000 in
set_option maxRecDepth 100000 in
theorem bX3_commonOf_b31 {p : Program} {l : Launch} {e : Env} {s : State} {m : MethodId} {args : Array Value} {below : List Frame} {meth : Method} {c : Code} {G : Gw} {x0 : Int64} {x2 : Int64} {Φ : Hp → Int64 → Prop} (C0 : Mx p s m c cX3_commonOf 11 args yX3_commonOf.cls G) (Y : My meth (some .long)) {k31 : Hp → Int64 → Int64 → Int32 → Prop} (hk31 : ∀ (S : Hp) (v4 : Int64) (v6 : Int64) (v8 : Int32) (H : Heap) (locs : List Loc) (ls : Array Slot), k31 S v4 v6 v8 → Ok G S H → va_S (Ab G.b) s.heap H locs → lv_has ls 11 [(0, .long x0), (2, .long x2), (4, .long v4), (6, .long v6), (8, .int v8)] → W p l e rm_X3_commonOf s m args below meth c H locs 0 0 (MQ below (gQ G (PJ Φ)) args s rm_X3_commonOf.cells rm_X3_commonOf.slots (Ab G.b)) (F0 m 31 ls [])) : ∀ (S : Hp) (v4 : Int64) (v6 : Int64) (v8 : Int32) (H : Heap) (locs : List Loc) (ls : Array Slot), wX3_commonOf_b31 x0 x2 Φ k31 S v4 v6 v8 → Ok G S H → va_S (Ab G.b) s.heap H locs → lv_has ls 11 [(0, .long x0), (2, .long x2), (4, .long v4), (6, .long v6), (8, .int v8)] → W p l e rm_X3_commonOf s m args below meth c H locs 0 0 (MQ below (gQ G (PJ Φ)) args s rm_X3_commonOf.cells rm_X3_commonOf.slots (Ab G.b)) (F0 m 31 ls []) := by
  intro S v4 v6 v8 H locs ls h hO hS hl
  unfold wX3_commonOf_b31 at h
  refine lv_iload C0.1 C0.2.1 dX3_commonOf_31 (lv_at hl 4 rfl) ?_
  refine lv_sipush (v := 200) C0.1 C0.2.1 dX3_commonOf_33 (by decide) ?_
  refine lv_icmp_ge (tgt := 67) C0.1 C0.2.1 dX3_commonOf_36 (by decide) (fun c1 => ?_) (fun c1 => ?_)
  · have h := h.1 c1
    refine lv_lload C0.1 C0.2.1 dX3_commonOf_67 (lv_at hl 2 rfl) ?_
    exact e_J C0 Y hO hS h (Nat.le_refl _) (Nat.le_refl _) dX3_commonOf_69
  · have h := h.2 c1
    refine lv_lload C0.1 C0.2.1 dX3_commonOf_39 (lv_at hl 3 rfl) ?_
    refine lv_lconst (v := 0) C0.1 C0.2.1 dX3_commonOf_41 (by decide) ?_
    refine W.lcmp C0.1 C0.2.1 dX3_commonOf_42 ?_
    refine lv_if_eq (tgt := 67) C0.1 C0.2.1 dX3_commonOf_43 (by decide) (fun c2 => ?_) (fun c2 => ?_)
    · have h := h.1 c2
      refine lv_lload C0.1 C0.2.1 dX3_commonOf_67 (lv_at hl 2 rfl) ?_
      exact e_J C0 Y hO hS h (Nat.le_refl _) (Nat.le_refl _) dX3_commonOf_69
    · have h := h.2 c2
      refine lv_lload C0.1 C0.2.1 dX3_commonOf_46 (lv_at hl 2 rfl) ?_
      refine lv_lload C0.1 C0.2.1 dX3_commonOf_48 (lv_at hl 3 rfl) ?_
      obtain ⟨e3, h⟩ := h
      refine lv_lrem C0.1 C0.2.1 dX3_commonOf_50 e3 ?_
      refine lv_lstore C0.1 C0.2.1 dX3_commonOf_51 hl (by decide) rfl (fun ls hl => ?_)
      refine lv_lload C0.1 C0.2.1 dX3_commonOf_53 (lv_at hl 4 rfl) ?_
      refine lv_lstore C0.1 C0.2.1 dX3_commonOf_55 hl (by decide) rfl (fun ls hl => ?_)
      refine lv_lload C0.1 C0.2.1 dX3_commonOf_57 (lv_at hl 1 rfl) ?_
      refine lv_lstore C0.1 C0.2.1 dX3_commonOf_59 hl (by decide) rfl (fun ls hl => ?_)
      refine lv_iinc (v := _ + 1) C0.1 C0.2.1 dX3_commonOf_61 hl (k := 5) rfl rfl (by decide) rfl (fun ls hl => ?_)
      refine lv_goto (tgt := 31) C0.1 C0.2.1 dX3_commonOf_64 (by decide) ?_
      exact hk31 _ _ _ _ _ _ _ h hO hS (lv_sub hl [4, 5, 2, 1, 0] rfl)
set_option maxHeartbeats 4000000 in
set_option maxRecDepth 100000 in
theorem lX3_commonOf_b31 {p : Program} {l : Launch} {e : Env} {s : State} {m : MethodId} {args : Array Value} {below : List Frame} {meth : Method} {c : Code} {G : Gw} {x0 : Int64} {x2 : Int64} {Φ : Hp → Int64 → Prop} (C0 : Mx p s m c cX3_commonOf 11 args yX3_commonOf.cls G) (Y : My meth (some .long))  : ∀ n9 : Nat, ∀ (S : Hp) (v4 : Int64) (v6 : Int64) (v8 : Int32) (H : Heap) (locs : List Loc) (ls : Array Slot), it4 (wX3_commonOf_b31 x0 x2 Φ) n9 S v4 v6 v8 → Ok G S H → va_S (Ab G.b) s.heap H locs → lv_has ls 11 [(0, .long x0), (2, .long x2), (4, .long v4), (6, .long v6), (8, .int v8)] → W p l e rm_X3_commonOf s m args below meth c H locs 0 0 (MQ below (gQ G (PJ Φ)) args s rm_X3_commonOf.cells rm_X3_commonOf.slots (Ab G.b)) (F0 m 31 ls []) := by
  intro n9
  induction n9 with
  | zero => intro S v4 v6 v8 H locs ls h; exact (h : False).elim
  | succ n9 ih => intro S v4 v6 v8 H locs ls h hO hS hl; exact bX3_commonOf_b31 C0 Y ih S v4 v6 v8 H locs ls h hO hS hl
def wX3_commonOf_b26 (x0 : Int64) (x2 : Int64) (Φ : Hp → Int64 → Prop) (S : Hp) (v4 : Int64) (z0 : Int64) : Prop := ∃ n, it4 (wX3_commonOf_b31 x0 x2 Φ) n S v4 z0 0
set_option maxHeartbeats 4000000 in
set_option maxRecDepth 100000 in
theorem bX3_commonOf_b26 {p : Program} {l : Launch} {e : Env} {s : State} {m : MethodId} {args : Array Value} {below : List Frame} {meth : Method} {c : Code} {G : Gw} {x0 : Int64} {x2 : Int64} {Φ : Hp → Int64 → Prop} (C0 : Mx p s m c cX3_commonOf 11 args yX3_commonOf.cls G) (Y : My meth (some .long))  : ∀ (S : Hp) (v4 : Int64) (z0 : Int64) (H : Heap) (locs : List Loc) (ls : Array Slot), wX3_commonOf_b26 x0 x2 Φ S v4 z0 → Ok G S H → va_S (Ab G.b) s.heap H locs → lv_has ls 11 [(0, .long x0), (2, .long x2), (4, .long v4)] → W p l e rm_X3_commonOf s m args below meth c H locs 0 0 (MQ below (gQ G (PJ Φ)) args s rm_X3_commonOf.cells rm_X3_commonOf.slots (Ab G.b)) (F0 m 26 ls [.long z0]) := by
  intro S v4 z0 H locs ls h hO hS hl
  unfold wX3_commonOf_b26 at h
  refine lv_lstore C0.1 C0.2.1 dX3_commonOf_26 hl (by decide) rfl (fun ls hl => ?_)
  refine lv_iconst (v := 0) C0.1 C0.2.1 dX3_commonOf_28 (by decide) ?_
  refine lv_istore C0.1 C0.2.1 dX3_commonOf_29 hl (by decide) rfl (fun ls hl => ?_)
  obtain ⟨n9, h⟩ := h
  exact lX3_commonOf_b31 C0 Y n9 _ _ _ _ _ _ _ h hO hS (lv_sub hl [2, 3, 4, 1, 0] rfl)
def wX3_commonOf_b12 (x0 : Int64) (x2 : Int64) (Φ : Hp → Int64 → Prop) (S : Hp) (z0 : Int64) : Prop := ((0 ≤ (lg_cmp x2 0) → wX3_commonOf_b26 x0 x2 Φ S z0 x2) ∧ (¬ (0 ≤ (lg_cmp x2 0)) → wX3_commonOf_b26 x0 x2 Φ S z0 (-x2)))
set_option maxHeartbeats 4000000 in
set_option maxRecDepth 100000 in
theorem bX3_commonOf_b12 {p : Program} {l : Launch} {e : Env} {s : State} {m : MethodId} {args : Array Value} {below : List Frame} {meth : Method} {c : Code} {G : Gw} {x0 : Int64} {x2 : Int64} {Φ : Hp → Int64 → Prop} (C0 : Mx p s m c cX3_commonOf 11 args yX3_commonOf.cls G) (Y : My meth (some .long))  : ∀ (S : Hp) (z0 : Int64) (H : Heap) (locs : List Loc) (ls : Array Slot), wX3_commonOf_b12 x0 x2 Φ S z0 → Ok G S H → va_S (Ab G.b) s.heap H locs → lv_has ls 11 [(0, .long x0), (2, .long x2)] → W p l e rm_X3_commonOf s m args below meth c H locs 0 0 (MQ below (gQ G (PJ Φ)) args s rm_X3_commonOf.cells rm_X3_commonOf.slots (Ab G.b)) (F0 m 12 ls [.long z0]) := by
  intro S z0 H locs ls h hO hS hl
  unfold wX3_commonOf_b12 at h
  refine lv_lstore C0.1 C0.2.1 dX3_commonOf_12 hl (by decide) rfl (fun ls hl => ?_)
  refine lv_lload_n C0.1 C0.2.1 dX3_commonOf_14 rfl (lv_at hl 2 rfl) ?_
  refine lv_lconst (v := 0) C0.1 C0.2.1 dX3_commonOf_15 (by decide) ?_
  refine W.lcmp C0.1 C0.2.1 dX3_commonOf_16 ?_
  refine lv_if_ge (tgt := 25) C0.1 C0.2.1 dX3_commonOf_17 (by decide) (fun c1 => ?_) (fun c1 => ?_)
  · have h := h.1 c1
    refine lv_lload_n C0.1 C0.2.1 dX3_commonOf_25 rfl (lv_at hl 2 rfl) ?_
    exact bX3_commonOf_b26 C0 Y _ _ _ _ _ _ h hO hS (lv_sub hl [1, 2, 0] rfl)
  · have h := h.2 c1
    refine lv_lload_n C0.1 C0.2.1 dX3_commonOf_20 rfl (lv_at hl 2 rfl) ?_
    refine lv_lneg C0.1 C0.2.1 dX3_commonOf_21 ?_
    refine lv_goto (tgt := 26) C0.1 C0.2.1 dX3_commonOf_22 (by decide) ?_
    exact bX3_commonOf_b26 C0 Y _ _ _ _ _ _ h hO hS (lv_sub hl [1, 2, 0] rfl)
def wX3_commonOf_b0 (x0 : Int64) (x2 : Int64) (Φ : Hp → Int64 → Prop) (S : Hp) : Prop := ((0 ≤ (lg_cmp x0 0) → wX3_commonOf_b12 x0 x2 Φ S x0) ∧ (¬ (0 ≤ (lg_cmp x0 0)) → wX3_commonOf_b12 x0 x2 Φ S (-x0)))
set_option maxHeartbeats 4000000 in
set_option maxRecDepth 100000 in
theorem bX3_commonOf_b0 {p : Program} {l : Launch} {e : Env} {s : State} {m : MethodId} {args : Array Value} {below : List Frame} {meth : Method} {c : Code} {G : Gw} {x0 : Int64} {x2 : Int64} {Φ : Hp → Int64 → Prop} (C0 : Mx p s m c cX3_commonOf 11 args yX3_commonOf.cls G) (Y : My meth (some .long))  : ∀ (S : Hp) (H : Heap) (locs : List Loc) (ls : Array Slot), wX3_commonOf_b0 x0 x2 Φ S → Ok G S H → va_S (Ab G.b) s.heap H locs → lv_has ls 11 [(0, .long x0), (2, .long x2)] → W p l e rm_X3_commonOf s m args below meth c H locs 0 0 (MQ below (gQ G (PJ Φ)) args s rm_X3_commonOf.cells rm_X3_commonOf.slots (Ab G.b)) (F0 m 0 ls []) := by
  intro S H locs ls h hO hS hl
  unfold wX3_commonOf_b0 at h
  refine lv_lload_n C0.1 C0.2.1 dX3_commonOf_0 rfl (lv_at hl 0 rfl) ?_
  refine lv_lconst (v := 0) C0.1 C0.2.1 dX3_commonOf_1 (by decide) ?_
  refine W.lcmp C0.1 C0.2.1 dX3_commonOf_2 ?_
  refine lv_if_ge (tgt := 11) C0.1 C0.2.1 dX3_commonOf_3 (by decide) (fun c1 => ?_) (fun c1 => ?_)
  · have h := h.1 c1
    refine lv_lload_n C0.1 C0.2.1 dX3_commonOf_11 rfl (lv_at hl 0 rfl) ?_
    exact bX3_commonOf_b12 C0 Y _ _ _ _ _ h hO hS (lv_sub hl [0, 1] rfl)
  · have h := h.2 c1
    refine lv_lload_n C0.1 C0.2.1 dX3_commonOf_6 rfl (lv_at hl 0 rfl) ?_
    refine lv_lneg C0.1 C0.2.1 dX3_commonOf_7 ?_
    refine lv_goto (tgt := 12) C0.1 C0.2.1 dX3_commonOf_8 (by decide) ?_
    exact bX3_commonOf_b12 C0 Y _ _ _ _ _ h hO hS (lv_sub hl [0, 1] rfl)
def wX3_commonOf (S : Hp) (x0 : Int64) (x2 : Int64) (Φ : Hp → Int64 → Prop) : Prop := wX3_commonOf_b0 x0 x2 Φ S
set_option maxRecDepth 100000 in
theorem mX3_commonOf {l : Launch} {G : Gw} {S : Hp} {x0 : Int64} {x2 : Int64} {Φ : Hp → Int64 → Prop} (h : wX3_commonOf S x0 x2 Φ) : gM l yX3_commonOf cX3_commonOf 11 (some .long) rm_X3_commonOf [.long x0, .long x2] G S (PJ Φ) := by
  unfold gM
  refine Met.ofW (cc := cX3_commonOf) (maxL := 11) (ret := (some .long)) (by decide) rfl ?_
  intro p e s m args below meth c s₁ B hml hv
  obtain ⟨rfl, hw⟩ := hv
  obtain ⟨C0, Y, hO⟩ := mx_of B hml hw
  have hS : va_S (Ab G.b) s.heap s.heap [] := va_S.rf
  have hl := lv_entry ([.long x0, .long x2]) (n := 11) (Nat.le_of_ble_eq_true rfl)
  rw [lg_entry_eq]
  generalize (lg_sl ([.long x0, .long x2]) ++ List.replicate (11 - (lg_sl ([.long x0, .long x2])).length) Slot.unset).toArray = ls at hl ⊢
  have hl : lv_has ls 11 [(0, .long x0), (2, .long x2)] := hl
  exact bX3_commonOf_b0 C0 Y S _ _ _ h hO hS hl

def rm_X3_init : Room := { frames := 1, cells := 0, slots := 0, locals := 30 }
def wX3_init_b46 (x0 : Nat) (x1 : Int64) (x3 : Int64) (Φ : Hp → Prop) (S : Hp) (z0 : Nat) (z1 : Int64) : Prop := isA S z0 3 ∧ ∀ S2, S2 = S.setFJ 193 z0 z1 → Φ S2
set_option maxHeartbeats 4000000 in
set_option maxRecDepth 100000 in
theorem bX3_init_b46 {p : Program} {l : Launch} {e : Env} {s : State} {m : MethodId} {args : Array Value} {below : List Frame} {meth : Method} {c : Code} {G : Gw} {x0 : Nat} {x1 : Int64} {x3 : Int64} {Φ : Hp → Prop} (C0 : Mx p s m c cX3_init 7 args yX3_init.cls G) (Y : My meth none) (hin9 : meth.name = "<init>")  : ∀ (S : Hp) (z0 : Nat) (z1 : Int64) (H : Heap) (locs : List Loc) (ls : Array Slot), wX3_init_b46 x0 x1 x3 Φ S z0 z1 → Ok G S H → va_S (Ab G.b) s.heap H locs → lv_has ls 7 [(0, .ref x0), (1, .long x1), (3, .long x3)] → W p l e rm_X3_init s m args below meth c H locs 0 0 (MQ below (gQ G (PV Φ)) args s rm_X3_init.cells rm_X3_init.slots (Ab G.b)) (F0 m 46 ls [.long z1, .ref z0]) := by
  intro S z0 z1 H locs ls h hO hS hl
  unfold wX3_init_b46 at h
  obtain ⟨i1, h⟩ := h
  refine p3_1 C0 hO hS i1 hin9 rfl tb_481 dX3_init_46 (fun H locs hO hS => ?_)
  have h := h _ rfl
  exact e_V C0 Y hO hS h (Nat.le_refl _) (Nat.le_refl _) dX3_init_49
def wX3_init_b27 (x0 : Nat) (x1 : Int64) (x3 : Int64) (Φ : Hp → Prop) (S : Hp) (v5 : Int64) (z0 : Nat) (z1 : Int64) : Prop := isA S z0 3 ∧ ∀ S2, S2 = S.setFJ 192 z0 z1 → ((¬ (lg_cmp v5 0) = 0 → ¬ v5 = 0 ∧ wX3_init_b46 x0 x1 x3 Φ S2 x0 (x3 / v5)) ∧ ((lg_cmp v5 0) = 0 → wX3_init_b46 x0 x1 x3 Φ S2 x0 1))
set_option maxHeartbeats 4000000 in
set_option maxRecDepth 100000 in
theorem bX3_init_b27 {p : Program} {l : Launch} {e : Env} {s : State} {m : MethodId} {args : Array Value} {below : List Frame} {meth : Method} {c : Code} {G : Gw} {x0 : Nat} {x1 : Int64} {x3 : Int64} {Φ : Hp → Prop} (C0 : Mx p s m c cX3_init 7 args yX3_init.cls G) (Y : My meth none) (hin9 : meth.name = "<init>")  : ∀ (S : Hp) (v5 : Int64) (z0 : Nat) (z1 : Int64) (H : Heap) (locs : List Loc) (ls : Array Slot), wX3_init_b27 x0 x1 x3 Φ S v5 z0 z1 → Ok G S H → va_S (Ab G.b) s.heap H locs → lv_has ls 7 [(0, .ref x0), (1, .long x1), (3, .long x3), (5, .long v5)] → W p l e rm_X3_init s m args below meth c H locs 0 0 (MQ below (gQ G (PV Φ)) args s rm_X3_init.cells rm_X3_init.slots (Ab G.b)) (F0 m 27 ls [.long z1, .ref z0]) := by
  intro S v5 z0 z1 H locs ls h hO hS hl
  unfold wX3_init_b27 at h
  obtain ⟨i1, h⟩ := h
  refine p3_0 C0 hO hS i1 hin9 rfl tb_480 dX3_init_27 (fun H locs hO hS => ?_)
  have h := h _ rfl
  refine lv_aload_n C0.1 C0.2.1 dX3_init_30 rfl (lv_at hl 0 rfl) ?_
  refine lv_lload C0.1 C0.2.1 dX3_init_31 (lv_at hl 3 rfl) ?_
  refine lv_lconst (v := 0) C0.1 C0.2.1 dX3_init_33 (by decide) ?_
  refine W.lcmp C0.1 C0.2.1 dX3_init_34 ?_
  refine lv_if_ne (tgt := 42) C0.1 C0.2.1 dX3_init_35 (by decide) (fun c3 => ?_) (fun c3 => ?_)
  · have h := h.1 c3
    refine lv_lload_n C0.1 C0.2.1 dX3_init_42 rfl (lv_at hl 2 rfl) ?_
    refine lv_lload C0.1 C0.2.1 dX3_init_43 (lv_at hl 3 rfl) ?_
    obtain ⟨e4, h⟩ := h
    refine lv_ldiv C0.1 C0.2.1 dX3_init_45 e4 ?_
    exact bX3_init_b46 C0 Y hin9 _ _ _ _ _ _ h hO hS (lv_sub hl [0, 1, 2] rfl)
  · have h := h.2 c3
    refine lv_lconst (v := 1) C0.1 C0.2.1 dX3_init_38 (by decide) ?_
    refine lv_goto (tgt := 46) C0.1 C0.2.1 dX3_init_39 (by decide) ?_
    exact bX3_init_b46 C0 Y hin9 _ _ _ _ _ _ h hO hS (lv_sub hl [0, 1, 2] rfl)
def wX3_init_b0 (x0 : Nat) (x1 : Int64) (x3 : Int64) (Φ : Hp → Prop) (S : Hp) : Prop := wX3_commonOf S x1 x3 (fun S1 r2 => ((¬ (lg_cmp r2 0) = 0 → ¬ r2 = 0 ∧ wX3_init_b27 x0 x1 x3 Φ S1 r2 x0 (x1 / r2)) ∧ ((lg_cmp r2 0) = 0 → wX3_init_b27 x0 x1 x3 Φ S1 r2 x0 0)))
set_option maxHeartbeats 4000000 in
set_option maxRecDepth 100000 in
theorem bX3_init_b0 {p : Program} {l : Launch} {e : Env} {s : State} {m : MethodId} {args : Array Value} {below : List Frame} {meth : Method} {c : Code} {G : Gw} {x0 : Nat} {x1 : Int64} {x3 : Int64} {Φ : Hp → Prop} (C0 : Mx p s m c cX3_init 7 args yX3_init.cls G) (Y : My meth none) (hin9 : meth.name = "<init>")  : ∀ (S : Hp) (H : Heap) (locs : List Loc) (ls : Array Slot), wX3_init_b0 x0 x1 x3 Φ S → Ok G S H → va_S (Ab G.b) s.heap H locs → lv_has ls 7 [(0, .ref x0), (1, .long x1), (3, .long x3)] → W p l e rm_X3_init s m args below meth c H locs 0 0 (MQ below (gQ G (PV Φ)) args s rm_X3_init.cells rm_X3_init.slots (Ab G.b)) (F0 m 0 ls []) := by
  intro S H locs ls h hO hS hl
  unfold wX3_init_b0 at h
  refine lv_aload_n C0.1 C0.2.1 dX3_init_0 rfl (lv_at hl 0 rfl) ?_
  refine W.objInit C0.1 C0.2.1 C0.2.2.2.1 (C0.2.2.2.2.1 _ tb_478) (C0.2.2.2.2.1 _ tb_58) (C0.2.2.2.2.1 _ tb_59) rfl (hl.1.trans C0.2.2.1.symm) rfl dX3_init_1 (Nat.le_of_ble_eq_true rfl) (Nat.le_of_ble_eq_true rfl) ?_
  refine W.eq (g2 := F0 _ 4 _ _) rfl ?_
  refine lv_lload_n C0.1 C0.2.1 dX3_init_4 rfl (lv_at hl 1 rfl) ?_
  refine lv_lload_n C0.1 C0.2.1 dX3_init_5 rfl (lv_at hl 2 rfl) ?_
  refine c_S C0 hO hS (mX3_commonOf h) tb_479 tb_358 tb_44 tb_359 hd_X3_commonOf rfl ⟨⟨by decide, by decide⟩, by decide, by decide⟩ hl.1 rfl (Nat.le_of_ble_eq_true rfl) dX3_init_6 (kJ (fun r2 S1 H locs h hO hS => ?_))
  refine lv_lstore C0.1 C0.2.1 dX3_init_9 hl (by decide) rfl (fun ls hl => ?_)
  refine lv_aload_n C0.1 C0.2.1 dX3_init_11 rfl (lv_at hl 1 rfl) ?_
  refine lv_lload C0.1 C0.2.1 dX3_init_12 (lv_at hl 0 rfl) ?_
  refine lv_lconst (v := 0) C0.1 C0.2.1 dX3_init_14 (by decide) ?_
  refine W.lcmp C0.1 C0.2.1 dX3_init_15 ?_
  refine lv_if_ne (tgt := 23) C0.1 C0.2.1 dX3_init_16 (by decide) (fun c3 => ?_) (fun c3 => ?_)
  · have h := h.1 c3
    refine lv_lload_n C0.1 C0.2.1 dX3_init_23 rfl (lv_at hl 2 rfl) ?_
    refine lv_lload C0.1 C0.2.1 dX3_init_24 (lv_at hl 0 rfl) ?_
    obtain ⟨e4, h⟩ := h
    refine lv_ldiv C0.1 C0.2.1 dX3_init_26 e4 ?_
    exact bX3_init_b27 C0 Y hin9 _ _ _ _ _ _ _ h hO hS (lv_sub hl [1, 2, 3, 0] rfl)
  · have h := h.2 c3
    refine lv_lconst (v := 0) C0.1 C0.2.1 dX3_init_19 (by decide) ?_
    refine lv_goto (tgt := 27) C0.1 C0.2.1 dX3_init_20 (by decide) ?_
    exact bX3_init_b27 C0 Y hin9 _ _ _ _ _ _ _ h hO hS (lv_sub hl [1, 2, 3, 0] rfl)
def wX3_init (S : Hp) (x0 : Nat) (x1 : Int64) (x3 : Int64) (Φ : Hp → Prop) : Prop := wX3_init_b0 x0 x1 x3 Φ S
set_option maxRecDepth 100000 in
theorem mX3_init {l : Launch} {G : Gw} {S : Hp} {x0 : Nat} {x1 : Int64} {x3 : Int64} {Φ : Hp → Prop} (h : wX3_init S x0 x1 x3 Φ) : gM l yX3_init cX3_init 7 none rm_X3_init [.ref x0, .long x1, .long x3] G S (PV Φ) := by
  unfold gM
  refine Met.ofW (cc := cX3_init) (maxL := 7) (ret := none) (by decide) rfl ?_
  intro p e s m args below meth c s₁ B hml hv
  obtain ⟨rfl, hw⟩ := hv
  obtain ⟨C0, Y, hO⟩ := mx_of B hml hw
  have hS : va_S (Ab G.b) s.heap s.heap [] := va_S.rf
  have hin9 : meth.name = "<init>" := (name_of_methodNamed B.named B.method).1
  have hl := lv_entry ([.ref x0, .long x1, .long x3]) (n := 7) (Nat.le_of_ble_eq_true rfl)
  rw [lg_entry_eq]
  generalize (lg_sl ([.ref x0, .long x1, .long x3]) ++ List.replicate (7 - (lg_sl ([.ref x0, .long x1, .long x3])).length) Slot.unset).toArray = ls at hl ⊢
  have hl : lv_has ls 7 [(0, .ref x0), (1, .long x1), (3, .long x3)] := hl
  exact bX3_init_b0 C0 Y hin9 S _ _ _ h hO hS hl

def rm_X3_isSame : Room := { frames := 0, cells := 0, slots := 0, locals := 0 }
def wX3_isSame_b0 (x0 : Nat) (x1 : Nat) (Φ : Hp → Int32 → Prop) (S : Hp) : Prop := isA S x0 3 ∧ isA S x1 3 ∧ ((¬ (lg_cmp (S.FJ 192 x0) (S.FJ 192 x1)) = 0 → Φ S 0) ∧ ((lg_cmp (S.FJ 192 x0) (S.FJ 192 x1)) = 0 → ((¬ (lg_cmp (S.FJ 193 x0) (S.FJ 193 x1)) = 0 → Φ S 0) ∧ ((lg_cmp (S.FJ 193 x0) (S.FJ 193 x1)) = 0 → Φ S 1))))
set_option maxHeartbeats 4000000 in
set_option maxRecDepth 100000 in
theorem bX3_isSame_b0 {p : Program} {l : Launch} {e : Env} {s : State} {m : MethodId} {args : Array Value} {below : List Frame} {meth : Method} {c : Code} {G : Gw} {x0 : Nat} {x1 : Nat} {Φ : Hp → Int32 → Prop} (C0 : Mx p s m c cX3_isSame 2 args yX3_isSame.cls G) (Y : My meth (some .boolean))  : ∀ (S : Hp) (H : Heap) (locs : List Loc) (ls : Array Slot), wX3_isSame_b0 x0 x1 Φ S → Ok G S H → va_S (Ab G.b) s.heap H locs → lv_has ls 2 [(0, .ref x0), (1, .ref x1)] → W p l e rm_X3_isSame s m args below meth c H locs 0 0 (MQ below (gQ G (PI Φ)) args s rm_X3_isSame.cells rm_X3_isSame.slots (Ab G.b)) (F0 m 0 ls []) := by
  intro S H locs ls h hO hS hl
  unfold wX3_isSame_b0 at h
  refine lv_aload_n C0.1 C0.2.1 dX3_isSame_0 rfl (lv_at hl 0 rfl) ?_
  obtain ⟨i1, h⟩ := h
  refine g3_0 C0 hO i1 tb_480 dX3_isSame_1 ?_
  refine lv_aload_n C0.1 C0.2.1 dX3_isSame_4 rfl (lv_at hl 1 rfl) ?_
  obtain ⟨i2, h⟩ := h
  refine g3_0 C0 hO i2 tb_480 dX3_isSame_5 ?_
  refine W.lcmp C0.1 C0.2.1 dX3_isSame_8 ?_
  refine lv_if_ne (tgt := 28) C0.1 C0.2.1 dX3_isSame_9 (by decide) (fun c3 => ?_) (fun c3 => ?_)
  · have h := h.1 c3
    refine lv_iconst (v := 0) C0.1 C0.2.1 dX3_isSame_28 (by decide) ?_
    exact e_Z C0 Y hO hS rfl h (Nat.le_refl _) (Nat.le_refl _) dX3_isSame_29
  · have h := h.2 c3
    refine lv_aload_n C0.1 C0.2.1 dX3_isSame_12 rfl (lv_at hl 0 rfl) ?_
    refine g3_1 C0 hO i1 tb_481 dX3_isSame_13 ?_
    refine lv_aload_n C0.1 C0.2.1 dX3_isSame_16 rfl (lv_at hl 1 rfl) ?_
    refine g3_1 C0 hO i2 tb_481 dX3_isSame_17 ?_
    refine W.lcmp C0.1 C0.2.1 dX3_isSame_20 ?_
    refine lv_if_ne (tgt := 28) C0.1 C0.2.1 dX3_isSame_21 (by decide) (fun c4 => ?_) (fun c4 => ?_)
    · have h := h.1 c4
      refine lv_iconst (v := 0) C0.1 C0.2.1 dX3_isSame_28 (by decide) ?_
      exact e_Z C0 Y hO hS rfl h (Nat.le_refl _) (Nat.le_refl _) dX3_isSame_29
    · have h := h.2 c4
      refine lv_iconst (v := 1) C0.1 C0.2.1 dX3_isSame_24 (by decide) ?_
      refine lv_goto (tgt := 29) C0.1 C0.2.1 dX3_isSame_25 (by decide) ?_
      exact e_Z C0 Y hO hS rfl h (Nat.le_refl _) (Nat.le_refl _) dX3_isSame_29
def wX3_isSame (S : Hp) (x0 : Nat) (x1 : Nat) (Φ : Hp → Int32 → Prop) : Prop := wX3_isSame_b0 x0 x1 Φ S
set_option maxRecDepth 100000 in
theorem mX3_isSame {l : Launch} {G : Gw} {S : Hp} {x0 : Nat} {x1 : Nat} {Φ : Hp → Int32 → Prop} (h : wX3_isSame S x0 x1 Φ) : gM l yX3_isSame cX3_isSame 2 (some .boolean) rm_X3_isSame [.ref x0, .ref x1] G S (PI Φ) := by
  unfold gM
  refine Met.ofW (cc := cX3_isSame) (maxL := 2) (ret := (some .boolean)) (by decide) rfl ?_
  intro p e s m args below meth c s₁ B hml hv
  obtain ⟨rfl, hw⟩ := hv
  obtain ⟨C0, Y, hO⟩ := mx_of B hml hw
  have hS : va_S (Ab G.b) s.heap s.heap [] := va_S.rf
  have hl := lv_entry ([.ref x0, .ref x1]) (n := 2) (Nat.le_of_ble_eq_true rfl)
  rw [lg_entry_eq]
  generalize (lg_sl ([.ref x0, .ref x1]) ++ List.replicate (2 - (lg_sl ([.ref x0, .ref x1])).length) Slot.unset).toArray = ls at hl ⊢
  have hl : lv_has ls 2 [(0, .ref x0), (1, .ref x1)] := hl
  exact bX3_isSame_b0 C0 Y S _ _ _ h hO hS hl

def rm_X4_init : Room := { frames := 1, cells := 2, slots := 48, locals := 24 }
def wX4_init_b0 (x0 : Nat) (x1 : Int32) (Φ : Hp → Prop) (S : Hp) : Prop := ¬ x1 < 0 ∧ x1.toNatClampNeg ≤ 24 ∧ ∀ a2 S3, a2 ∉ S.L → S3 = S.new a2 22 x1.toNatClampNeg → isA S3 x0 4 ∧ ∀ S5, S5 = S3.setFR 256 x0 (some a2) → ¬ x1 < 0 ∧ x1.toNatClampNeg ≤ 24 ∧ ∀ a7 S8, a7 ∉ S5.L → S8 = S5.new a7 22 x1.toNatClampNeg → ∀ S9, S9 = S8.setFR 257 x0 (some a7) → ∃ a10, S9.FR 257 x0 = some a10 ∧ wJ7_fill_d0a16 S9 a10 1 (fun S11 => Φ S11)
set_option maxHeartbeats 4000000 in
set_option maxRecDepth 100000 in
theorem bX4_init_b0 {p : Program} {l : Launch} {e : Env} {s : State} {m : MethodId} {args : Array Value} {below : List Frame} {meth : Method} {c : Code} {G : Gw} {x0 : Nat} {x1 : Int32} {Φ : Hp → Prop} (C0 : Mx p s m c cX4_init 2 args yX4_init.cls G) (Y : My meth none) (hin9 : meth.name = "<init>")  : ∀ (S : Hp) (H : Heap) (locs : List Loc) (ls : Array Slot) (cells slots : Nat), wX4_init_b0 x0 x1 Φ S → Ok G S H → va_S (Ab G.b) s.heap H locs → lv_has ls 2 [(0, .ref x0), (1, .int x1)] → cells + (2) ≤ 2 → slots + (48) ≤ 48 → W p l e rm_X4_init s m args below meth c H locs cells slots (MQ below (gQ G (PV Φ)) args s rm_X4_init.cells rm_X4_init.slots (Ab G.b)) (F0 m 0 ls []) := by
  intro S H locs ls cells slots h hO hS hl hcc hss
  unfold wX4_init_b0 at h
  refine lv_aload_n C0.1 C0.2.1 dX4_init_0 rfl (lv_at hl 0 rfl) ?_
  refine W.objInit C0.1 C0.2.1 C0.2.2.2.1 (C0.2.2.2.2.1 _ tb_91) (C0.2.2.2.2.1 _ tb_58) (C0.2.2.2.2.1 _ tb_59) rfl (hl.1.trans C0.2.2.1.symm) rfl dX4_init_1 (Nat.le_of_ble_eq_true rfl) (Nat.le_of_ble_eq_true rfl) ?_
  refine W.eq (g2 := F0 _ 4 _ _) rfl ?_
  refine lv_aload_n C0.1 C0.2.1 dX4_init_4 rfl (lv_at hl 0 rfl) ?_
  refine lv_iload_n C0.1 C0.2.1 dX4_init_5 rfl (lv_at hl 1 rfl) ?_
  obtain ⟨e1, e1b, h⟩ := h
  refine n_22 C0 hO hS e1 (Nat.le_trans e1b (by decide)) (by show _ ≤ 2; omega) (by show _ ≤ 48; omega) dX4_init_6 (fun a2 H hna2 hO hS => ?_)
  have h := h a2 _ hna2 rfl
  refine W.widen (k := _ + 1) (n := _ + 24) (Nat.le_refl _) (Nat.add_le_add_left e1b _) ?_
  obtain ⟨i4, h⟩ := h
  refine p4_0 C0 hO hS i4 hin9 rfl tb_95 dX4_init_8 (fun H locs hO hS => ?_)
  have h := h _ rfl
  refine lv_aload_n C0.1 C0.2.1 dX4_init_11 rfl (lv_at hl 0 rfl) ?_
  refine lv_iload_n C0.1 C0.2.1 dX4_init_12 rfl (lv_at hl 1 rfl) ?_
  obtain ⟨e6, e6b, h⟩ := h
  refine n_22 C0 hO hS e6 (Nat.le_trans e6b (by decide)) (by show _ ≤ 2; omega) (by show _ ≤ 48; omega) dX4_init_13 (fun a7 H hna7 hO hS => ?_)
  have h := h a7 _ hna7 rfl
  refine W.widen (k := _ + 1) (n := _ + 24) (Nat.le_refl _) (Nat.add_le_add_left e6b _) ?_
  refine p4_1 C0 hO hS (new_old (n := x1.toNatClampNeg) hna7 (sA_FR i4)) hin9 rfl tb_96 dX4_init_15 (fun H locs hO hS => ?_)
  have h := h _ rfl
  refine lv_aload_n C0.1 C0.2.1 dX4_init_18 rfl (lv_at hl 0 rfl) ?_
  obtain ⟨a10, ea10, h⟩ := h
  refine g4_1 C0 hO (sA_FR (new_old (n := x1.toNatClampNeg) hna7 (sA_FR i4))) ea10 tb_96 dX4_init_19 ?_
  refine lv_lconst (v := 1) C0.1 C0.2.1 dX4_init_22 (by decide) ?_
  refine c_S C0 hO hS (mJ7_fill_d0a16 h) tb_92 tb_93 tb_32 tb_94 hd_J7_fill_d0a16 rfl ⟨⟨by decide, by decide⟩, by show _ + 0 ≤ 2; omega, by show _ + 0 ≤ 48; omega⟩ hl.1 rfl (Nat.le_of_ble_eq_true rfl) dX4_init_23 (kV (fun S11 H locs h hO hS => ?_))
  change W _ _ _ _ _ _ _ _ _ _ _ _ (_ + 0) (_ + 0) _ _
  exact e_V C0 Y hO hS h (by show _ ≤ 2; omega) (by show _ ≤ 48; omega) dX4_init_26
def wX4_init (S : Hp) (x0 : Nat) (x1 : Int32) (Φ : Hp → Prop) : Prop := wX4_init_b0 x0 x1 Φ S
set_option maxRecDepth 100000 in
theorem mX4_init {l : Launch} {G : Gw} {S : Hp} {x0 : Nat} {x1 : Int32} {Φ : Hp → Prop} (h : wX4_init S x0 x1 Φ) : gM l yX4_init cX4_init 2 none rm_X4_init [.ref x0, .int x1] G S (PV Φ) := by
  unfold gM
  refine Met.ofW (cc := cX4_init) (maxL := 2) (ret := none) (by decide) rfl ?_
  intro p e s m args below meth c s₁ B hml hv
  obtain ⟨rfl, hw⟩ := hv
  obtain ⟨C0, Y, hO⟩ := mx_of B hml hw
  have hS : va_S (Ab G.b) s.heap s.heap [] := va_S.rf
  have hin9 : meth.name = "<init>" := (name_of_methodNamed B.named B.method).1
  have hl := lv_entry ([.ref x0, .int x1]) (n := 2) (Nat.le_of_ble_eq_true rfl)
  rw [lg_entry_eq]
  generalize (lg_sl ([.ref x0, .int x1]) ++ List.replicate (2 - (lg_sl ([.ref x0, .int x1])).length) Slot.unset).toArray = ls at hl ⊢
  have hl : lv_has ls 2 [(0, .ref x0), (1, .int x1)] := hl
  exact bX4_init_b0 C0 Y hin9 S _ _ _ 0 0 h hO hS hl (by decide) (by decide)

def rm_X4_has : Room := { frames := 0, cells := 0, slots := 0, locals := 0 }
def wX4_has_b0 (x0 : Nat) (x1 : Int32) (Φ : Hp → Int32 → Prop) (S : Hp) : Prop := ((x1 < 0 → Φ S 0) ∧ (¬ (x1 < 0) → isA S x0 4 ∧ ∃ a3, S.FR 256 x0 = some a3 ∧ isA S a3 22 ∧ (((nI (S.N a3)) ≤ x1 → Φ S 0) ∧ (¬ ((nI (S.N a3)) ≤ x1) → Φ S 1))))
set_option maxHeartbeats 4000000 in
set_option maxRecDepth 100000 in
theorem bX4_has_b0 {p : Program} {l : Launch} {e : Env} {s : State} {m : MethodId} {args : Array Value} {below : List Frame} {meth : Method} {c : Code} {G : Gw} {x0 : Nat} {x1 : Int32} {Φ : Hp → Int32 → Prop} (C0 : Mx p s m c cX4_has 2 args yX4_has.cls G) (Y : My meth (some .boolean))  : ∀ (S : Hp) (H : Heap) (locs : List Loc) (ls : Array Slot), wX4_has_b0 x0 x1 Φ S → Ok G S H → va_S (Ab G.b) s.heap H locs → lv_has ls 2 [(0, .ref x0), (1, .int x1)] → W p l e rm_X4_has s m args below meth c H locs 0 0 (MQ below (gQ G (PI Φ)) args s rm_X4_has.cells rm_X4_has.slots (Ab G.b)) (F0 m 0 ls []) := by
  intro S H locs ls h hO hS hl
  unfold wX4_has_b0 at h
  refine lv_iload_n C0.1 C0.2.1 dX4_has_0 rfl (lv_at hl 1 rfl) ?_
  refine lv_if_lt (tgt := 17) C0.1 C0.2.1 dX4_has_1 (by decide) (fun c1 => ?_) (fun c1 => ?_)
  · have h := h.1 c1
    refine lv_iconst (v := 0) C0.1 C0.2.1 dX4_has_17 (by decide) ?_
    exact e_Z C0 Y hO hS rfl h (Nat.le_refl _) (Nat.le_refl _) dX4_has_18
  · have h := h.2 c1
    refine lv_iload_n C0.1 C0.2.1 dX4_has_4 rfl (lv_at hl 1 rfl) ?_
    refine lv_aload_n C0.1 C0.2.1 dX4_has_5 rfl (lv_at hl 0 rfl) ?_
    obtain ⟨i2, h⟩ := h
    obtain ⟨a3, ea3, h⟩ := h
    refine g4_0 C0 hO i2 ea3 tb_95 dX4_has_6 ?_
    obtain ⟨i4, h⟩ := h
    refine r_len (k := 22) (t := 2) C0 hO i4 (by decide) rfl dX4_has_9 ?_
    refine lv_icmp_ge (tgt := 17) C0.1 C0.2.1 dX4_has_10 (by decide) (fun c5 => ?_) (fun c5 => ?_)
    · have h := h.1 c5
      refine lv_iconst (v := 0) C0.1 C0.2.1 dX4_has_17 (by decide) ?_
      exact e_Z C0 Y hO hS rfl h (Nat.le_refl _) (Nat.le_refl _) dX4_has_18
    · have h := h.2 c5
      refine lv_iconst (v := 1) C0.1 C0.2.1 dX4_has_13 (by decide) ?_
      refine lv_goto (tgt := 18) C0.1 C0.2.1 dX4_has_14 (by decide) ?_
      exact e_Z C0 Y hO hS rfl h (Nat.le_refl _) (Nat.le_refl _) dX4_has_18
def wX4_has (S : Hp) (x0 : Nat) (x1 : Int32) (Φ : Hp → Int32 → Prop) : Prop := wX4_has_b0 x0 x1 Φ S
set_option maxRecDepth 100000 in
theorem mX4_has {l : Launch} {G : Gw} {S : Hp} {x0 : Nat} {x1 : Int32} {Φ : Hp → Int32 → Prop} (h : wX4_has S x0 x1 Φ) : gM l yX4_has cX4_has 2 (some .boolean) rm_X4_has [.ref x0, .int x1] G S (PI Φ) := by
  unfold gM
  refine Met.ofW (cc := cX4_has) (maxL := 2) (ret := (some .boolean)) (by decide) rfl ?_
  intro p e s m args below meth c s₁ B hml hv
  obtain ⟨rfl, hw⟩ := hv
  obtain ⟨C0, Y, hO⟩ := mx_of B hml hw
  have hS : va_S (Ab G.b) s.heap s.heap [] := va_S.rf
  have hl := lv_entry ([.ref x0, .int x1]) (n := 2) (Nat.le_of_ble_eq_true rfl)
  rw [lg_entry_eq]
  generalize (lg_sl ([.ref x0, .int x1]) ++ List.replicate (2 - (lg_sl ([.ref x0, .int x1])).length) Slot.unset).toArray = ls at hl ⊢
  have hl : lv_has ls 2 [(0, .ref x0), (1, .int x1)] := hl
  exact bX4_has_b0 C0 Y S _ _ _ h hO hS hl

def rm_X4_overAt : Room := { frames := 1, cells := 0, slots := 0, locals := 21 }
def wX4_overAt_b0 (x0 : Nat) (x1 : Int32) (Φ : Hp → Int64 → Prop) (S : Hp) : Prop := isA S x0 4 ∧ wX4_has S x0 x1 (fun S1 r2 => ((r2 = 0 → Φ S1 0) ∧ (¬ (r2 = 0) → isA S1 x0 4 ∧ ∃ a6, S1.FR 256 x0 = some a6 ∧ isA S1 a6 22 ∧ vp_in x1 (S1.N a6) ∧ Φ S1 (S1.AJ a6 x1.toNatClampNeg))))
set_option maxHeartbeats 4000000 in
set_option maxRecDepth 100000 in
theorem bX4_overAt_b0 {p : Program} {l : Launch} {e : Env} {s : State} {m : MethodId} {args : Array Value} {below : List Frame} {meth : Method} {c : Code} {G : Gw} {x0 : Nat} {x1 : Int32} {Φ : Hp → Int64 → Prop} (C0 : Mx p s m c cX4_overAt 2 args yX4_overAt.cls G) (Y : My meth (some .long))  : ∀ (S : Hp) (H : Heap) (locs : List Loc) (ls : Array Slot), wX4_overAt_b0 x0 x1 Φ S → Ok G S H → va_S (Ab G.b) s.heap H locs → lv_has ls 2 [(0, .ref x0), (1, .int x1)] → W p l e rm_X4_overAt s m args below meth c H locs 0 0 (MQ below (gQ G (PJ Φ)) args s rm_X4_overAt.cells rm_X4_overAt.slots (Ab G.b)) (F0 m 0 ls []) := by
  intro S H locs ls h hO hS hl
  unfold wX4_overAt_b0 at h
  refine lv_aload_n C0.1 C0.2.1 dX4_overAt_0 rfl (lv_at hl 0 rfl) ?_
  refine lv_iload_n C0.1 C0.2.1 dX4_overAt_1 rfl (lv_at hl 1 rfl) ?_
  obtain ⟨i3, h⟩ := h
  refine c_V C0 hO hS (mX4_has h) i3 (by decide) rfl rfl tb_360 tb_362 tb_6 tb_31 tb_363 hd_X4_has rfl ⟨⟨by decide, by decide⟩, by decide, by decide⟩ hl.1 rfl (Nat.le_of_ble_eq_true rfl) dX4_overAt_2 (kI (fun r2 S1 H locs h hO hS => ?_))
  refine lv_if_eq (tgt := 17) C0.1 C0.2.1 dX4_overAt_5 (by decide) (fun c4 => ?_) (fun c4 => ?_)
  · have h := h.1 c4
    refine lv_lconst (v := 0) C0.1 C0.2.1 dX4_overAt_17 (by decide) ?_
    exact e_J C0 Y hO hS h (Nat.le_refl _) (Nat.le_refl _) dX4_overAt_18
  · have h := h.2 c4
    refine lv_aload_n C0.1 C0.2.1 dX4_overAt_8 rfl (lv_at hl 0 rfl) ?_
    obtain ⟨i5, h⟩ := h
    obtain ⟨a6, ea6, h⟩ := h
    refine g4_0 C0 hO i5 ea6 tb_95 dX4_overAt_9 ?_
    refine lv_iload_n C0.1 C0.2.1 dX4_overAt_12 rfl (lv_at hl 1 rfl) ?_
    obtain ⟨i7, h⟩ := h
    obtain ⟨e8, h⟩ := h
    refine r_lald C0 hO i7 e8 dX4_overAt_13 ?_
    refine lv_goto (tgt := 18) C0.1 C0.2.1 dX4_overAt_14 (by decide) ?_
    exact e_J C0 Y hO hS h (Nat.le_refl _) (Nat.le_refl _) dX4_overAt_18
def wX4_overAt (S : Hp) (x0 : Nat) (x1 : Int32) (Φ : Hp → Int64 → Prop) : Prop := wX4_overAt_b0 x0 x1 Φ S
set_option maxRecDepth 100000 in
theorem mX4_overAt {l : Launch} {G : Gw} {S : Hp} {x0 : Nat} {x1 : Int32} {Φ : Hp → Int64 → Prop} (h : wX4_overAt S x0 x1 Φ) : gM l yX4_overAt cX4_overAt 2 (some .long) rm_X4_overAt [.ref x0, .int x1] G S (PJ Φ) := by
  unfold gM
  refine Met.ofW (cc := cX4_overAt) (maxL := 2) (ret := (some .long)) (by decide) rfl ?_
  intro p e s m args below meth c s₁ B hml hv
  obtain ⟨rfl, hw⟩ := hv
  obtain ⟨C0, Y, hO⟩ := mx_of B hml hw
  have hS : va_S (Ab G.b) s.heap s.heap [] := va_S.rf
  have hl := lv_entry ([.ref x0, .int x1]) (n := 2) (Nat.le_of_ble_eq_true rfl)
  rw [lg_entry_eq]
  generalize (lg_sl ([.ref x0, .int x1]) ++ List.replicate (2 - (lg_sl ([.ref x0, .int x1])).length) Slot.unset).toArray = ls at hl ⊢
  have hl : lv_has ls 2 [(0, .ref x0), (1, .int x1)] := hl
  exact bX4_overAt_b0 C0 Y S _ _ _ h hO hS hl

def rm_X4_underAt : Room := { frames := 1, cells := 0, slots := 0, locals := 21 }
def wX4_underAt_b0 (x0 : Nat) (x1 : Int32) (Φ : Hp → Int64 → Prop) (S : Hp) : Prop := isA S x0 4 ∧ wX4_has S x0 x1 (fun S1 r2 => ((r2 = 0 → Φ S1 1) ∧ (¬ (r2 = 0) → isA S1 x0 4 ∧ ∃ a6, S1.FR 257 x0 = some a6 ∧ isA S1 a6 22 ∧ vp_in x1 (S1.N a6) ∧ Φ S1 (S1.AJ a6 x1.toNatClampNeg))))
set_option maxHeartbeats 4000000 in
set_option maxRecDepth 100000 in
theorem bX4_underAt_b0 {p : Program} {l : Launch} {e : Env} {s : State} {m : MethodId} {args : Array Value} {below : List Frame} {meth : Method} {c : Code} {G : Gw} {x0 : Nat} {x1 : Int32} {Φ : Hp → Int64 → Prop} (C0 : Mx p s m c cX4_underAt 2 args yX4_underAt.cls G) (Y : My meth (some .long))  : ∀ (S : Hp) (H : Heap) (locs : List Loc) (ls : Array Slot), wX4_underAt_b0 x0 x1 Φ S → Ok G S H → va_S (Ab G.b) s.heap H locs → lv_has ls 2 [(0, .ref x0), (1, .int x1)] → W p l e rm_X4_underAt s m args below meth c H locs 0 0 (MQ below (gQ G (PJ Φ)) args s rm_X4_underAt.cells rm_X4_underAt.slots (Ab G.b)) (F0 m 0 ls []) := by
  intro S H locs ls h hO hS hl
  unfold wX4_underAt_b0 at h
  refine lv_aload_n C0.1 C0.2.1 dX4_underAt_0 rfl (lv_at hl 0 rfl) ?_
  refine lv_iload_n C0.1 C0.2.1 dX4_underAt_1 rfl (lv_at hl 1 rfl) ?_
  obtain ⟨i3, h⟩ := h
  refine c_V C0 hO hS (mX4_has h) i3 (by decide) rfl rfl tb_360 tb_362 tb_6 tb_31 tb_363 hd_X4_has rfl ⟨⟨by decide, by decide⟩, by decide, by decide⟩ hl.1 rfl (Nat.le_of_ble_eq_true rfl) dX4_underAt_2 (kI (fun r2 S1 H locs h hO hS => ?_))
  refine lv_if_eq (tgt := 17) C0.1 C0.2.1 dX4_underAt_5 (by decide) (fun c4 => ?_) (fun c4 => ?_)
  · have h := h.1 c4
    refine lv_lconst (v := 1) C0.1 C0.2.1 dX4_underAt_17 (by decide) ?_
    exact e_J C0 Y hO hS h (Nat.le_refl _) (Nat.le_refl _) dX4_underAt_18
  · have h := h.2 c4
    refine lv_aload_n C0.1 C0.2.1 dX4_underAt_8 rfl (lv_at hl 0 rfl) ?_
    obtain ⟨i5, h⟩ := h
    obtain ⟨a6, ea6, h⟩ := h
    refine g4_1 C0 hO i5 ea6 tb_96 dX4_underAt_9 ?_
    refine lv_iload_n C0.1 C0.2.1 dX4_underAt_12 rfl (lv_at hl 1 rfl) ?_
    obtain ⟨i7, h⟩ := h
    obtain ⟨e8, h⟩ := h
    refine r_lald C0 hO i7 e8 dX4_underAt_13 ?_
    refine lv_goto (tgt := 18) C0.1 C0.2.1 dX4_underAt_14 (by decide) ?_
    exact e_J C0 Y hO hS h (Nat.le_refl _) (Nat.le_refl _) dX4_underAt_18
def wX4_underAt (S : Hp) (x0 : Nat) (x1 : Int32) (Φ : Hp → Int64 → Prop) : Prop := wX4_underAt_b0 x0 x1 Φ S
set_option maxRecDepth 100000 in
theorem mX4_underAt {l : Launch} {G : Gw} {S : Hp} {x0 : Nat} {x1 : Int32} {Φ : Hp → Int64 → Prop} (h : wX4_underAt S x0 x1 Φ) : gM l yX4_underAt cX4_underAt 2 (some .long) rm_X4_underAt [.ref x0, .int x1] G S (PJ Φ) := by
  unfold gM
  refine Met.ofW (cc := cX4_underAt) (maxL := 2) (ret := (some .long)) (by decide) rfl ?_
  intro p e s m args below meth c s₁ B hml hv
  obtain ⟨rfl, hw⟩ := hv
  obtain ⟨C0, Y, hO⟩ := mx_of B hml hw
  have hS : va_S (Ab G.b) s.heap s.heap [] := va_S.rf
  have hl := lv_entry ([.ref x0, .int x1]) (n := 2) (Nat.le_of_ble_eq_true rfl)
  rw [lg_entry_eq]
  generalize (lg_sl ([.ref x0, .int x1]) ++ List.replicate (2 - (lg_sl ([.ref x0, .int x1])).length) Slot.unset).toArray = ls at hl ⊢
  have hl : lv_has ls 2 [(0, .ref x0), (1, .int x1)] := hl
  exact bX4_underAt_b0 C0 Y S _ _ _ h hO hS hl

def rm_X4_isMoving : Room := { frames := 2, cells := 0, slots := 0, locals := 42 }
def wX4_isMoving_b0 (x0 : Nat) (x1 : Int32) (Φ : Hp → Int32 → Prop) (S : Hp) : Prop := isA S x0 4 ∧ wX4_overAt S x0 x1 (fun S1 r2 => (((lg_cmp r2 0) = 0 → Φ S1 0) ∧ (¬ ((lg_cmp r2 0) = 0) → Φ S1 1)))
set_option maxHeartbeats 4000000 in
set_option maxRecDepth 100000 in
theorem bX4_isMoving_b0 {p : Program} {l : Launch} {e : Env} {s : State} {m : MethodId} {args : Array Value} {below : List Frame} {meth : Method} {c : Code} {G : Gw} {x0 : Nat} {x1 : Int32} {Φ : Hp → Int32 → Prop} (C0 : Mx p s m c cX4_isMoving 2 args yX4_isMoving.cls G) (Y : My meth (some .boolean))  : ∀ (S : Hp) (H : Heap) (locs : List Loc) (ls : Array Slot), wX4_isMoving_b0 x0 x1 Φ S → Ok G S H → va_S (Ab G.b) s.heap H locs → lv_has ls 2 [(0, .ref x0), (1, .int x1)] → W p l e rm_X4_isMoving s m args below meth c H locs 0 0 (MQ below (gQ G (PI Φ)) args s rm_X4_isMoving.cells rm_X4_isMoving.slots (Ab G.b)) (F0 m 0 ls []) := by
  intro S H locs ls h hO hS hl
  unfold wX4_isMoving_b0 at h
  refine lv_aload_n C0.1 C0.2.1 dX4_isMoving_0 rfl (lv_at hl 0 rfl) ?_
  refine lv_iload_n C0.1 C0.2.1 dX4_isMoving_1 rfl (lv_at hl 1 rfl) ?_
  obtain ⟨i3, h⟩ := h
  refine c_V C0 hO hS (mX4_overAt h) i3 (by decide) rfl rfl tb_383 tb_384 tb_385 tb_31 tb_386 hd_X4_overAt rfl ⟨⟨by decide, by decide⟩, by decide, by decide⟩ hl.1 rfl (Nat.le_of_ble_eq_true rfl) dX4_isMoving_2 (kJ (fun r2 S1 H locs h hO hS => ?_))
  refine lv_lconst (v := 0) C0.1 C0.2.1 dX4_isMoving_5 (by decide) ?_
  refine W.lcmp C0.1 C0.2.1 dX4_isMoving_6 ?_
  refine lv_if_eq (tgt := 14) C0.1 C0.2.1 dX4_isMoving_7 (by decide) (fun c4 => ?_) (fun c4 => ?_)
  · have h := h.1 c4
    refine lv_iconst (v := 0) C0.1 C0.2.1 dX4_isMoving_14 (by decide) ?_
    exact e_Z C0 Y hO hS rfl h (Nat.le_refl _) (Nat.le_refl _) dX4_isMoving_15
  · have h := h.2 c4
    refine lv_iconst (v := 1) C0.1 C0.2.1 dX4_isMoving_10 (by decide) ?_
    refine lv_goto (tgt := 15) C0.1 C0.2.1 dX4_isMoving_11 (by decide) ?_
    exact e_Z C0 Y hO hS rfl h (Nat.le_refl _) (Nat.le_refl _) dX4_isMoving_15
def wX4_isMoving (S : Hp) (x0 : Nat) (x1 : Int32) (Φ : Hp → Int32 → Prop) : Prop := wX4_isMoving_b0 x0 x1 Φ S
set_option maxRecDepth 100000 in
theorem mX4_isMoving {l : Launch} {G : Gw} {S : Hp} {x0 : Nat} {x1 : Int32} {Φ : Hp → Int32 → Prop} (h : wX4_isMoving S x0 x1 Φ) : gM l yX4_isMoving cX4_isMoving 2 (some .boolean) rm_X4_isMoving [.ref x0, .int x1] G S (PI Φ) := by
  unfold gM
  refine Met.ofW (cc := cX4_isMoving) (maxL := 2) (ret := (some .boolean)) (by decide) rfl ?_
  intro p e s m args below meth c s₁ B hml hv
  obtain ⟨rfl, hw⟩ := hv
  obtain ⟨C0, Y, hO⟩ := mx_of B hml hw
  have hS : va_S (Ab G.b) s.heap s.heap [] := va_S.rf
  have hl := lv_entry ([.ref x0, .int x1]) (n := 2) (Nat.le_of_ble_eq_true rfl)
  rw [lg_entry_eq]
  generalize (lg_sl ([.ref x0, .int x1]) ++ List.replicate (2 - (lg_sl ([.ref x0, .int x1])).length) Slot.unset).toArray = ls at hl ⊢
  have hl : lv_has ls 2 [(0, .ref x0), (1, .int x1)] := hl
  exact bX4_isMoving_b0 C0 Y S _ _ _ h hO hS hl

def rm_X4_isSame : Room := { frames := 2, cells := 0, slots := 0, locals := 42 }
def wX4_isSame_b0 (x0 : Nat) (x1 : Int32) (x2 : Nat) (Φ : Hp → Int32 → Prop) (S : Hp) : Prop := isA S x0 4 ∧ wX4_overAt S x0 x1 (fun S1 r2 => isA S1 x2 4 ∧ wX4_overAt S1 x2 x1 (fun S4 r5 => ((¬ (lg_cmp r2 r5) = 0 → Φ S4 0) ∧ ((lg_cmp r2 r5) = 0 → isA S4 x0 4 ∧ wX4_underAt S4 x0 x1 (fun S8 r9 => isA S8 x2 4 ∧ wX4_underAt S8 x2 x1 (fun S11 r12 => ((¬ (lg_cmp r9 r12) = 0 → Φ S11 0) ∧ ((lg_cmp r9 r12) = 0 → Φ S11 1))))))))
set_option maxHeartbeats 4000000 in
set_option maxRecDepth 100000 in
theorem bX4_isSame_b0 {p : Program} {l : Launch} {e : Env} {s : State} {m : MethodId} {args : Array Value} {below : List Frame} {meth : Method} {c : Code} {G : Gw} {x0 : Nat} {x1 : Int32} {x2 : Nat} {Φ : Hp → Int32 → Prop} (C0 : Mx p s m c cX4_isSame 3 args yX4_isSame.cls G) (Y : My meth (some .boolean))  : ∀ (S : Hp) (H : Heap) (locs : List Loc) (ls : Array Slot), wX4_isSame_b0 x0 x1 x2 Φ S → Ok G S H → va_S (Ab G.b) s.heap H locs → lv_has ls 3 [(0, .ref x0), (1, .int x1), (2, .ref x2)] → W p l e rm_X4_isSame s m args below meth c H locs 0 0 (MQ below (gQ G (PI Φ)) args s rm_X4_isSame.cells rm_X4_isSame.slots (Ab G.b)) (F0 m 0 ls []) := by
  intro S H locs ls h hO hS hl
  unfold wX4_isSame_b0 at h
  refine lv_aload_n C0.1 C0.2.1 dX4_isSame_0 rfl (lv_at hl 0 rfl) ?_
  refine lv_iload_n C0.1 C0.2.1 dX4_isSame_1 rfl (lv_at hl 1 rfl) ?_
  obtain ⟨i3, h⟩ := h
  refine c_V C0 hO hS (mX4_overAt h) i3 (by decide) rfl rfl tb_383 tb_384 tb_385 tb_31 tb_386 hd_X4_overAt rfl ⟨⟨by decide, by decide⟩, by decide, by decide⟩ hl.1 rfl (Nat.le_of_ble_eq_true rfl) dX4_isSame_2 (kJ (fun r2 S1 H locs h hO hS => ?_))
  refine lv_aload_n C0.1 C0.2.1 dX4_isSame_5 rfl (lv_at hl 2 rfl) ?_
  refine lv_iload_n C0.1 C0.2.1 dX4_isSame_6 rfl (lv_at hl 1 rfl) ?_
  obtain ⟨i6, h⟩ := h
  refine c_V C0 hO hS (mX4_overAt h) i6 (by decide) rfl rfl tb_383 tb_384 tb_385 tb_31 tb_386 hd_X4_overAt rfl ⟨⟨by decide, by decide⟩, by decide, by decide⟩ hl.1 rfl (Nat.le_of_ble_eq_true rfl) dX4_isSame_7 (kJ (fun r5 S4 H locs h hO hS => ?_))
  refine W.lcmp C0.1 C0.2.1 dX4_isSame_10 ?_
  refine lv_if_ne (tgt := 32) C0.1 C0.2.1 dX4_isSame_11 (by decide) (fun c7 => ?_) (fun c7 => ?_)
  · have h := h.1 c7
    refine lv_iconst (v := 0) C0.1 C0.2.1 dX4_isSame_32 (by decide) ?_
    exact e_Z C0 Y hO hS rfl h (Nat.le_refl _) (Nat.le_refl _) dX4_isSame_33
  · have h := h.2 c7
    refine lv_aload_n C0.1 C0.2.1 dX4_isSame_14 rfl (lv_at hl 0 rfl) ?_
    refine lv_iload_n C0.1 C0.2.1 dX4_isSame_15 rfl (lv_at hl 1 rfl) ?_
    obtain ⟨i10, h⟩ := h
    refine c_V C0 hO hS (mX4_underAt h) i10 (by decide) rfl rfl tb_429 tb_411 tb_412 tb_31 tb_413 hd_X4_underAt rfl ⟨⟨by decide, by decide⟩, by decide, by decide⟩ hl.1 rfl (Nat.le_of_ble_eq_true rfl) dX4_isSame_16 (kJ (fun r9 S8 H locs h hO hS => ?_))
    refine lv_aload_n C0.1 C0.2.1 dX4_isSame_19 rfl (lv_at hl 2 rfl) ?_
    refine lv_iload_n C0.1 C0.2.1 dX4_isSame_20 rfl (lv_at hl 1 rfl) ?_
    obtain ⟨i13, h⟩ := h
    refine c_V C0 hO hS (mX4_underAt h) i13 (by decide) rfl rfl tb_429 tb_411 tb_412 tb_31 tb_413 hd_X4_underAt rfl ⟨⟨by decide, by decide⟩, by decide, by decide⟩ hl.1 rfl (Nat.le_of_ble_eq_true rfl) dX4_isSame_21 (kJ (fun r12 S11 H locs h hO hS => ?_))
    refine W.lcmp C0.1 C0.2.1 dX4_isSame_24 ?_
    refine lv_if_ne (tgt := 32) C0.1 C0.2.1 dX4_isSame_25 (by decide) (fun c14 => ?_) (fun c14 => ?_)
    · have h := h.1 c14
      refine lv_iconst (v := 0) C0.1 C0.2.1 dX4_isSame_32 (by decide) ?_
      exact e_Z C0 Y hO hS rfl h (Nat.le_refl _) (Nat.le_refl _) dX4_isSame_33
    · have h := h.2 c14
      refine lv_iconst (v := 1) C0.1 C0.2.1 dX4_isSame_28 (by decide) ?_
      refine lv_goto (tgt := 33) C0.1 C0.2.1 dX4_isSame_29 (by decide) ?_
      exact e_Z C0 Y hO hS rfl h (Nat.le_refl _) (Nat.le_refl _) dX4_isSame_33
def wX4_isSame (S : Hp) (x0 : Nat) (x1 : Int32) (x2 : Nat) (Φ : Hp → Int32 → Prop) : Prop := wX4_isSame_b0 x0 x1 x2 Φ S
set_option maxRecDepth 100000 in
theorem mX4_isSame {l : Launch} {G : Gw} {S : Hp} {x0 : Nat} {x1 : Int32} {x2 : Nat} {Φ : Hp → Int32 → Prop} (h : wX4_isSame S x0 x1 x2 Φ) : gM l yX4_isSame cX4_isSame 3 (some .boolean) rm_X4_isSame [.ref x0, .int x1, .ref x2] G S (PI Φ) := by
  unfold gM
  refine Met.ofW (cc := cX4_isSame) (maxL := 3) (ret := (some .boolean)) (by decide) rfl ?_
  intro p e s m args below meth c s₁ B hml hv
  obtain ⟨rfl, hw⟩ := hv
  obtain ⟨C0, Y, hO⟩ := mx_of B hml hw
  have hS : va_S (Ab G.b) s.heap s.heap [] := va_S.rf
  have hl := lv_entry ([.ref x0, .int x1, .ref x2]) (n := 3) (Nat.le_of_ble_eq_true rfl)
  rw [lg_entry_eq]
  generalize (lg_sl ([.ref x0, .int x1, .ref x2]) ++ List.replicate (3 - (lg_sl ([.ref x0, .int x1, .ref x2])).length) Slot.unset).toArray = ls at hl ⊢
  have hl : lv_has ls 3 [(0, .ref x0), (1, .int x1), (2, .ref x2)] := hl
  exact bX4_isSame_b0 C0 Y S _ _ _ h hO hS hl

def rm_X4_reset : Room := { frames := 1, cells := 0, slots := 0, locals := 24 }
def wX4_reset_b0 (x0 : Nat) (Φ : Hp → Prop) (S : Hp) : Prop := isA S x0 4 ∧ ∃ a2, S.FR 256 x0 = some a2 ∧ wJ7_fill_d0a16 S a2 0 (fun S3 => isA S3 x0 4 ∧ ∃ a5, S3.FR 257 x0 = some a5 ∧ wJ7_fill_d0a16 S3 a5 1 (fun S6 => Φ S6))
set_option maxHeartbeats 4000000 in
set_option maxRecDepth 100000 in
theorem bX4_reset_b0 {p : Program} {l : Launch} {e : Env} {s : State} {m : MethodId} {args : Array Value} {below : List Frame} {meth : Method} {c : Code} {G : Gw} {x0 : Nat} {Φ : Hp → Prop} (C0 : Mx p s m c cX4_reset 1 args yX4_reset.cls G) (Y : My meth none)  : ∀ (S : Hp) (H : Heap) (locs : List Loc) (ls : Array Slot), wX4_reset_b0 x0 Φ S → Ok G S H → va_S (Ab G.b) s.heap H locs → lv_has ls 1 [(0, .ref x0)] → W p l e rm_X4_reset s m args below meth c H locs 0 0 (MQ below (gQ G (PV Φ)) args s rm_X4_reset.cells rm_X4_reset.slots (Ab G.b)) (F0 m 0 ls []) := by
  intro S H locs ls h hO hS hl
  unfold wX4_reset_b0 at h
  refine lv_aload_n C0.1 C0.2.1 dX4_reset_0 rfl (lv_at hl 0 rfl) ?_
  obtain ⟨i1, h⟩ := h
  obtain ⟨a2, ea2, h⟩ := h
  refine g4_0 C0 hO i1 ea2 tb_95 dX4_reset_1 ?_
  refine lv_lconst (v := 0) C0.1 C0.2.1 dX4_reset_4 (by decide) ?_
  refine c_S C0 hO hS (mJ7_fill_d0a16 h) tb_92 tb_93 tb_32 tb_94 hd_J7_fill_d0a16 rfl ⟨⟨by decide, by decide⟩, by decide, by decide⟩ hl.1 rfl (Nat.le_of_ble_eq_true rfl) dX4_reset_5 (kV (fun S3 H locs h hO hS => ?_))
  refine lv_aload_n C0.1 C0.2.1 dX4_reset_8 rfl (lv_at hl 0 rfl) ?_
  obtain ⟨i4, h⟩ := h
  obtain ⟨a5, ea5, h⟩ := h
  refine g4_1 C0 hO i4 ea5 tb_96 dX4_reset_9 ?_
  refine lv_lconst (v := 1) C0.1 C0.2.1 dX4_reset_12 (by decide) ?_
  refine c_S C0 hO hS (mJ7_fill_d0a16 h) tb_92 tb_93 tb_32 tb_94 hd_J7_fill_d0a16 rfl ⟨⟨by decide, by decide⟩, by decide, by decide⟩ hl.1 rfl (Nat.le_of_ble_eq_true rfl) dX4_reset_13 (kV (fun S6 H locs h hO hS => ?_))
  exact e_V C0 Y hO hS h (Nat.le_refl _) (Nat.le_refl _) dX4_reset_16
def wX4_reset (S : Hp) (x0 : Nat) (Φ : Hp → Prop) : Prop := wX4_reset_b0 x0 Φ S
set_option maxRecDepth 100000 in
theorem mX4_reset {l : Launch} {G : Gw} {S : Hp} {x0 : Nat} {Φ : Hp → Prop} (h : wX4_reset S x0 Φ) : gM l yX4_reset cX4_reset 1 none rm_X4_reset [.ref x0] G S (PV Φ) := by
  unfold gM
  refine Met.ofW (cc := cX4_reset) (maxL := 1) (ret := none) (by decide) rfl ?_
  intro p e s m args below meth c s₁ B hml hv
  obtain ⟨rfl, hw⟩ := hv
  obtain ⟨C0, Y, hO⟩ := mx_of B hml hw
  have hS : va_S (Ab G.b) s.heap s.heap [] := va_S.rf
  have hl := lv_entry ([.ref x0]) (n := 1) (Nat.le_of_ble_eq_true rfl)
  rw [lg_entry_eq]
  generalize (lg_sl ([.ref x0]) ++ List.replicate (1 - (lg_sl ([.ref x0])).length) Slot.unset).toArray = ls at hl ⊢
  have hl : lv_has ls 1 [(0, .ref x0)] := hl
  exact bX4_reset_b0 C0 Y S _ _ _ h hO hS hl

def rm_X4_copyFrom : Room := { frames := 1, cells := 0, slots := 0, locals := 60 }
def wX4_copyFrom_b0 (x0 : Nat) (x1 : Nat) (Φ : Hp → Prop) (S : Hp) : Prop := isA S x0 4 ∧ ∃ a2, S.FR 256 x0 = some a2 ∧ isA S a2 22 ∧ isA S x1 4 ∧ ∃ a5, S.FR 256 x1 = some a5 ∧ isA S a5 22 ∧ ∃ a7, S.FR 256 x1 = some a7 ∧ ∃ a8, S.FR 256 x0 = some a8 ∧ isA S a7 22 ∧ isA S a8 22 ∧ ¬ (0 : Int32) < 0 ∧ ¬ (0 : Int32) < 0 ∧ ¬ (if (nI (S.N a5)) < (nI (S.N a2)) then (nI (S.N a5)) else (nI (S.N a2))) < 0 ∧ (0 : Int32).toNatClampNeg + (if (nI (S.N a5)) < (nI (S.N a2)) then (nI (S.N a5)) else (nI (S.N a2))).toNatClampNeg ≤ S.N a7 ∧ (0 : Int32).toNatClampNeg + (if (nI (S.N a5)) < (nI (S.N a2)) then (nI (S.N a5)) else (nI (S.N a2))).toNatClampNeg ≤ S.N a8 ∧ ∀ S12, S12 = S.putAJ a8 (va_cpy (S.AJ a7) (S.AJ a8) ((0 : Int32).toNatClampNeg) ((0 : Int32).toNatClampNeg) ((if (nI (S.N a5)) < (nI (S.N a2)) then (nI (S.N a5)) else (nI (S.N a2))).toNatClampNeg)) → ∃ a13, S12.FR 257 x1 = some a13 ∧ ∃ a14, S12.FR 257 x0 = some a14 ∧ isA S12 a13 22 ∧ isA S12 a14 22 ∧ ¬ (0 : Int32) < 0 ∧ ¬ (0 : Int32) < 0 ∧ ¬ (if (nI (S.N a5)) < (nI (S.N a2)) then (nI (S.N a5)) else (nI (S.N a2))) < 0 ∧ (0 : Int32).toNatClampNeg + (if (nI (S.N a5)) < (nI (S.N a2)) then (nI (S.N a5)) else (nI (S.N a2))).toNatClampNeg ≤ S12.N a13 ∧ (0 : Int32).toNatClampNeg + (if (nI (S.N a5)) < (nI (S.N a2)) then (nI (S.N a5)) else (nI (S.N a2))).toNatClampNeg ≤ S12.N a14 ∧ ∀ S18, S18 = S12.putAJ a14 (va_cpy (S12.AJ a13) (S12.AJ a14) ((0 : Int32).toNatClampNeg) ((0 : Int32).toNatClampNeg) ((if (nI (S.N a5)) < (nI (S.N a2)) then (nI (S.N a5)) else (nI (S.N a2))).toNatClampNeg)) → Φ S18
set_option maxHeartbeats 4000000 in
set_option maxRecDepth 100000 in
theorem bX4_copyFrom_b0 {p : Program} {l : Launch} {e : Env} {s : State} {m : MethodId} {args : Array Value} {below : List Frame} {meth : Method} {c : Code} {G : Gw} {x0 : Nat} {x1 : Nat} {Φ : Hp → Prop} (C0 : Mx p s m c cX4_copyFrom 3 args yX4_copyFrom.cls G) (Y : My meth none)  : ∀ (S : Hp) (H : Heap) (locs : List Loc) (ls : Array Slot), wX4_copyFrom_b0 x0 x1 Φ S → Ok G S H → va_S (Ab G.b) s.heap H locs → lv_has ls 3 [(0, .ref x0), (1, .ref x1)] → W p l e rm_X4_copyFrom s m args below meth c H locs 0 0 (MQ below (gQ G (PV Φ)) args s rm_X4_copyFrom.cells rm_X4_copyFrom.slots (Ab G.b)) (F0 m 0 ls []) := by
  intro S H locs ls h hO hS hl
  unfold wX4_copyFrom_b0 at h
  refine lv_aload_n C0.1 C0.2.1 dX4_copyFrom_0 rfl (lv_at hl 0 rfl) ?_
  obtain ⟨i1, h⟩ := h
  obtain ⟨a2, ea2, h⟩ := h
  refine g4_0 C0 hO i1 ea2 tb_95 dX4_copyFrom_1 ?_
  obtain ⟨i3, h⟩ := h
  refine r_len (k := 22) (t := 2) C0 hO i3 (by decide) rfl dX4_copyFrom_4 ?_
  refine lv_aload_n C0.1 C0.2.1 dX4_copyFrom_5 rfl (lv_at hl 1 rfl) ?_
  obtain ⟨i4, h⟩ := h
  obtain ⟨a5, ea5, h⟩ := h
  refine g4_0 C0 hO i4 ea5 tb_95 dX4_copyFrom_6 ?_
  obtain ⟨i6, h⟩ := h
  refine r_len (k := 22) (t := 2) C0 hO i6 (by decide) rfl dX4_copyFrom_9 ?_
  refine va_mmin C0.1 C0.2.1 (C0.2.2.1.trans hl.1.symm) C0.2.2.2.1 (C0.2.2.2.2.1 _ tb_331) (C0.2.2.2.2.1 _ tb_332) (C0.2.2.2.2.1 _ tb_42) (C0.2.2.2.2.1 _ tb_333) (Nat.le_of_ble_eq_true rfl) (Nat.le_of_ble_eq_true rfl) (by decide) (by decide) dX4_copyFrom_10 ?_
  refine lv_istore_n C0.1 C0.2.1 dX4_copyFrom_13 rfl hl (by decide) rfl (fun ls hl => ?_)
  refine lv_aload_n C0.1 C0.2.1 dX4_copyFrom_14 rfl (lv_at hl 2 rfl) ?_
  obtain ⟨a7, ea7, h⟩ := h
  refine g4_0 C0 hO i4 ea7 tb_95 dX4_copyFrom_15 ?_
  refine lv_iconst (v := 0) C0.1 C0.2.1 dX4_copyFrom_18 (by decide) ?_
  refine lv_aload_n C0.1 C0.2.1 dX4_copyFrom_19 rfl (lv_at hl 1 rfl) ?_
  obtain ⟨a8, ea8, h⟩ := h
  refine g4_0 C0 hO i1 ea8 tb_95 dX4_copyFrom_20 ?_
  refine lv_iconst (v := 0) C0.1 C0.2.1 dX4_copyFrom_23 (by decide) ?_
  refine lv_iload_n C0.1 C0.2.1 dX4_copyFrom_24 rfl (lv_at hl 0 rfl) ?_
  obtain ⟨i9, h⟩ := h
  obtain ⟨i10, h⟩ := h
  obtain ⟨e11a, e11b, e11c, e11d, e11e, h⟩ := h
  refine r_copyl C0 hO hS i9 i10 hl.1 tb_334 tb_336 tb_335 tb_43 e11a e11b e11c e11d e11e (Nat.le_of_ble_eq_true rfl) (Nat.le_of_ble_eq_true rfl) dX4_copyFrom_25 (fun H locs hO hS => ?_)
  have h := h _ rfl
  refine lv_aload_n C0.1 C0.2.1 dX4_copyFrom_28 rfl (lv_at hl 2 rfl) ?_
  obtain ⟨a13, ea13, h⟩ := h
  refine g4_1 C0 hO (sA_putAJ i4) ea13 tb_96 dX4_copyFrom_29 ?_
  refine lv_iconst (v := 0) C0.1 C0.2.1 dX4_copyFrom_32 (by decide) ?_
  refine lv_aload_n C0.1 C0.2.1 dX4_copyFrom_33 rfl (lv_at hl 1 rfl) ?_
  obtain ⟨a14, ea14, h⟩ := h
  refine g4_1 C0 hO (sA_putAJ i1) ea14 tb_96 dX4_copyFrom_34 ?_
  refine lv_iconst (v := 0) C0.1 C0.2.1 dX4_copyFrom_37 (by decide) ?_
  refine lv_iload_n C0.1 C0.2.1 dX4_copyFrom_38 rfl (lv_at hl 0 rfl) ?_
  obtain ⟨i15, h⟩ := h
  obtain ⟨i16, h⟩ := h
  obtain ⟨e17a, e17b, e17c, e17d, e17e, h⟩ := h
  refine r_copyl C0 hO hS i15 i16 hl.1 tb_334 tb_336 tb_335 tb_43 e17a e17b e17c e17d e17e (Nat.le_of_ble_eq_true rfl) (Nat.le_of_ble_eq_true rfl) dX4_copyFrom_39 (fun H locs hO hS => ?_)
  have h := h _ rfl
  exact e_V C0 Y hO hS h (Nat.le_refl _) (Nat.le_refl _) dX4_copyFrom_42
def wX4_copyFrom (S : Hp) (x0 : Nat) (x1 : Nat) (Φ : Hp → Prop) : Prop := wX4_copyFrom_b0 x0 x1 Φ S
set_option maxRecDepth 100000 in
theorem mX4_copyFrom {l : Launch} {G : Gw} {S : Hp} {x0 : Nat} {x1 : Nat} {Φ : Hp → Prop} (h : wX4_copyFrom S x0 x1 Φ) : gM l yX4_copyFrom cX4_copyFrom 3 none rm_X4_copyFrom [.ref x0, .ref x1] G S (PV Φ) := by
  unfold gM
  refine Met.ofW (cc := cX4_copyFrom) (maxL := 3) (ret := none) (by decide) rfl ?_
  intro p e s m args below meth c s₁ B hml hv
  obtain ⟨rfl, hw⟩ := hv
  obtain ⟨C0, Y, hO⟩ := mx_of B hml hw
  have hS : va_S (Ab G.b) s.heap s.heap [] := va_S.rf
  have hl := lv_entry ([.ref x0, .ref x1]) (n := 3) (Nat.le_of_ble_eq_true rfl)
  rw [lg_entry_eq]
  generalize (lg_sl ([.ref x0, .ref x1]) ++ List.replicate (3 - (lg_sl ([.ref x0, .ref x1])).length) Slot.unset).toArray = ls at hl ⊢
  have hl : lv_has ls 3 [(0, .ref x0), (1, .ref x1)] := hl
  exact bX4_copyFrom_b0 C0 Y S _ _ _ h hO hS hl

def rm_X4_put : Room := { frames := 1, cells := 0, slots := 0, locals := 30 }
def wX4_put_b0 (x0 : Nat) (x1 : Int32) (x2 : Int64) (x4 : Int64) (Φ : Hp → Prop) (S : Hp) : Prop := wX3_commonOf S x2 x4 (fun S1 r2 => isA S1 x0 4 ∧ wX4_has S1 x0 x1 (fun S3 r4 => ((r4 = 0 → Φ S3) ∧ (¬ (r4 = 0) → (((lg_cmp x4 0) ≤ 0 → Φ S3) ∧ (¬ ((lg_cmp x4 0) ≤ 0) → (((lg_cmp r2 0) ≤ 0 → Φ S3) ∧ (¬ ((lg_cmp r2 0) ≤ 0) → isA S3 x0 4 ∧ ∃ a10, S3.FR 256 x0 = some a10 ∧ ¬ r2 = 0 ∧ isA S3 a10 22 ∧ vp_in x1 (S3.N a10) ∧ ∀ S14, S14 = S3.setAJ a10 x1.toNatClampNeg (x2 / r2) → ∃ a15, S14.FR 257 x0 = some a15 ∧ ¬ r2 = 0 ∧ isA S14 a15 22 ∧ vp_in x1 (S14.N a15) ∧ ∀ S19, S19 = S14.setAJ a15 x1.toNatClampNeg (x4 / r2) → Φ S19))))))))
set_option maxHeartbeats 4000000 in
set_option maxRecDepth 100000 in
theorem bX4_put_b0 {p : Program} {l : Launch} {e : Env} {s : State} {m : MethodId} {args : Array Value} {below : List Frame} {meth : Method} {c : Code} {G : Gw} {x0 : Nat} {x1 : Int32} {x2 : Int64} {x4 : Int64} {Φ : Hp → Prop} (C0 : Mx p s m c cX4_put 8 args yX4_put.cls G) (Y : My meth none)  : ∀ (S : Hp) (H : Heap) (locs : List Loc) (ls : Array Slot), wX4_put_b0 x0 x1 x2 x4 Φ S → Ok G S H → va_S (Ab G.b) s.heap H locs → lv_has ls 8 [(0, .ref x0), (1, .int x1), (2, .long x2), (4, .long x4)] → W p l e rm_X4_put s m args below meth c H locs 0 0 (MQ below (gQ G (PV Φ)) args s rm_X4_put.cells rm_X4_put.slots (Ab G.b)) (F0 m 0 ls []) := by
  intro S H locs ls h hO hS hl
  unfold wX4_put_b0 at h
  refine lv_lload_n C0.1 C0.2.1 dX4_put_0 rfl (lv_at hl 2 rfl) ?_
  refine lv_lload C0.1 C0.2.1 dX4_put_1 (lv_at hl 3 rfl) ?_
  refine c_S C0 hO hS (mX3_commonOf h) tb_357 tb_358 tb_44 tb_359 hd_X3_commonOf rfl ⟨⟨by decide, by decide⟩, by decide, by decide⟩ hl.1 rfl (Nat.le_of_ble_eq_true rfl) dX4_put_3 (kJ (fun r2 S1 H locs h hO hS => ?_))
  refine lv_lstore C0.1 C0.2.1 dX4_put_6 hl (by decide) rfl (fun ls hl => ?_)
  refine lv_aload_n C0.1 C0.2.1 dX4_put_8 rfl (lv_at hl 1 rfl) ?_
  refine lv_iload_n C0.1 C0.2.1 dX4_put_9 rfl (lv_at hl 2 rfl) ?_
  obtain ⟨i5, h⟩ := h
  refine c_V C0 hO hS (mX4_has h) i5 (by decide) rfl rfl tb_360 tb_362 tb_6 tb_31 tb_363 hd_X4_has rfl ⟨⟨by decide, by decide⟩, by decide, by decide⟩ hl.1 rfl (Nat.le_of_ble_eq_true rfl) dX4_put_10 (kI (fun r4 S3 H locs h hO hS => ?_))
  refine lv_if_eq (tgt := 51) C0.1 C0.2.1 dX4_put_13 (by decide) (fun c6 => ?_) (fun c6 => ?_)
  · have h := h.1 c6
    exact e_V C0 Y hO hS h (Nat.le_refl _) (Nat.le_refl _) dX4_put_51
  · have h := h.2 c6
    refine lv_lload C0.1 C0.2.1 dX4_put_16 (lv_at hl 4 rfl) ?_
    refine lv_lconst (v := 0) C0.1 C0.2.1 dX4_put_18 (by decide) ?_
    refine W.lcmp C0.1 C0.2.1 dX4_put_19 ?_
    refine lv_if_le (tgt := 51) C0.1 C0.2.1 dX4_put_20 (by decide) (fun c7 => ?_) (fun c7 => ?_)
    · have h := h.1 c7
      exact e_V C0 Y hO hS h (Nat.le_refl _) (Nat.le_refl _) dX4_put_51
    · have h := h.2 c7
      refine lv_lload C0.1 C0.2.1 dX4_put_23 (lv_at hl 0 rfl) ?_
      refine lv_lconst (v := 0) C0.1 C0.2.1 dX4_put_25 (by decide) ?_
      refine W.lcmp C0.1 C0.2.1 dX4_put_26 ?_
      refine lv_if_le (tgt := 51) C0.1 C0.2.1 dX4_put_27 (by decide) (fun c8 => ?_) (fun c8 => ?_)
      · have h := h.1 c8
        exact e_V C0 Y hO hS h (Nat.le_refl _) (Nat.le_refl _) dX4_put_51
      · have h := h.2 c8
        refine lv_aload_n C0.1 C0.2.1 dX4_put_30 rfl (lv_at hl 1 rfl) ?_
        obtain ⟨i9, h⟩ := h
        obtain ⟨a10, ea10, h⟩ := h
        refine g4_0 C0 hO i9 ea10 tb_95 dX4_put_31 ?_
        refine lv_iload_n C0.1 C0.2.1 dX4_put_34 rfl (lv_at hl 2 rfl) ?_
        refine lv_lload_n C0.1 C0.2.1 dX4_put_35 rfl (lv_at hl 3 rfl) ?_
        refine lv_lload C0.1 C0.2.1 dX4_put_36 (lv_at hl 0 rfl) ?_
        obtain ⟨e11, h⟩ := h
        refine lv_ldiv C0.1 C0.2.1 dX4_put_38 e11 ?_
        obtain ⟨i12, h⟩ := h
        obtain ⟨e13, h⟩ := h
        refine r_last C0 hO hS i12 e13 dX4_put_39 (fun H locs hO hS => ?_)
        have h := h _ rfl
        refine lv_aload_n C0.1 C0.2.1 dX4_put_40 rfl (lv_at hl 1 rfl) ?_
        obtain ⟨a15, ea15, h⟩ := h
        refine g4_1 C0 hO (sA_AJ i9) ea15 tb_96 dX4_put_41 ?_
        refine lv_iload_n C0.1 C0.2.1 dX4_put_44 rfl (lv_at hl 2 rfl) ?_
        refine lv_lload C0.1 C0.2.1 dX4_put_45 (lv_at hl 4 rfl) ?_
        refine lv_lload C0.1 C0.2.1 dX4_put_47 (lv_at hl 0 rfl) ?_
        obtain ⟨e16, h⟩ := h
        refine lv_ldiv C0.1 C0.2.1 dX4_put_49 e16 ?_
        obtain ⟨i17, h⟩ := h
        obtain ⟨e18, h⟩ := h
        refine r_last C0 hO hS i17 e18 dX4_put_50 (fun H locs hO hS => ?_)
        have h := h _ rfl
        exact e_V C0 Y hO hS h (Nat.le_refl _) (Nat.le_refl _) dX4_put_51
def wX4_put (S : Hp) (x0 : Nat) (x1 : Int32) (x2 : Int64) (x4 : Int64) (Φ : Hp → Prop) : Prop := wX4_put_b0 x0 x1 x2 x4 Φ S
set_option maxRecDepth 100000 in
theorem mX4_put {l : Launch} {G : Gw} {S : Hp} {x0 : Nat} {x1 : Int32} {x2 : Int64} {x4 : Int64} {Φ : Hp → Prop} (h : wX4_put S x0 x1 x2 x4 Φ) : gM l yX4_put cX4_put 8 none rm_X4_put [.ref x0, .int x1, .long x2, .long x4] G S (PV Φ) := by
  unfold gM
  refine Met.ofW (cc := cX4_put) (maxL := 8) (ret := none) (by decide) rfl ?_
  intro p e s m args below meth c s₁ B hml hv
  obtain ⟨rfl, hw⟩ := hv
  obtain ⟨C0, Y, hO⟩ := mx_of B hml hw
  have hS : va_S (Ab G.b) s.heap s.heap [] := va_S.rf
  have hl := lv_entry ([.ref x0, .int x1, .long x2, .long x4]) (n := 8) (Nat.le_of_ble_eq_true rfl)
  rw [lg_entry_eq]
  generalize (lg_sl ([.ref x0, .int x1, .long x2, .long x4]) ++ List.replicate (8 - (lg_sl ([.ref x0, .int x1, .long x2, .long x4])).length) Slot.unset).toArray = ls at hl ⊢
  have hl : lv_has ls 8 [(0, .ref x0), (1, .int x1), (2, .long x2), (4, .long x4)] := hl
  exact bX4_put_b0 C0 Y S _ _ _ h hO hS hl

def rm_X4_add : Room := { frames := 1, cells := 0, slots := 0, locals := 30 }
def wX4_add_b0 (x0 : Nat) (x1 : Int32) (x2 : Int64) (x4 : Int64) (Φ : Hp → Prop) (S : Hp) : Prop := isA S x0 4 ∧ wX4_has S x0 x1 (fun S1 r2 => ((r2 = 0 → Φ S1) ∧ (¬ (r2 = 0) → ((0 < (lg_cmp x4 0) → isA S1 x0 4 ∧ ∃ a7, S1.FR 257 x0 = some a7 ∧ isA S1 a7 22 ∧ vp_in x1 (S1.N a7) ∧ wX3_commonOf S1 (S1.AJ a7 x1.toNatClampNeg) x4 (fun S10 r11 => ((0 < (lg_cmp r11 0) → isA S10 x0 4 ∧ ∃ a14, S10.FR 257 x0 = some a14 ∧ isA S10 a14 22 ∧ vp_in x1 (S10.N a14) ∧ ¬ r11 = 0 ∧ ∃ a18, S10.FR 256 x0 = some a18 ∧ isA S10 a18 22 ∧ vp_in x1 (S10.N a18) ∧ ¬ r11 = 0 ∧ wX3_commonOf S10 (((S10.AJ a18 x1.toNatClampNeg) * (x4 / r11)) + (x2 * ((S10.AJ a14 x1.toNatClampNeg) / r11))) (((S10.AJ a14 x1.toNatClampNeg) / r11) * x4) (fun S22 r23 => (((lg_cmp r23 0) ≤ 0 → Φ S22) ∧ (¬ ((lg_cmp r23 0) ≤ 0) → isA S22 x0 4 ∧ ∃ a26, S22.FR 256 x0 = some a26 ∧ ¬ r23 = 0 ∧ isA S22 a26 22 ∧ vp_in x1 (S22.N a26) ∧ ∀ S30, S30 = S22.setAJ a26 x1.toNatClampNeg ((((S10.AJ a18 x1.toNatClampNeg) * (x4 / r11)) + (x2 * ((S10.AJ a14 x1.toNatClampNeg) / r11))) / r23) → ∃ a31, S30.FR 257 x0 = some a31 ∧ ¬ r23 = 0 ∧ isA S30 a31 22 ∧ vp_in x1 (S30.N a31) ∧ ∀ S35, S35 = S30.setAJ a31 x1.toNatClampNeg ((((S10.AJ a14 x1.toNatClampNeg) / r11) * x4) / r23) → Φ S35)))) ∧ (¬ (0 < (lg_cmp r11 0)) → Φ S10)))) ∧ (¬ (0 < (lg_cmp x4 0)) → Φ S1)))))
set_option maxHeartbeats 4000000 in
set_option maxRecDepth 100000 in
theorem bX4_add_b0 {p : Program} {l : Launch} {e : Env} {s : State} {m : MethodId} {args : Array Value} {below : List Frame} {meth : Method} {c : Code} {G : Gw} {x0 : Nat} {x1 : Int32} {x2 : Int64} {x4 : Int64} {Φ : Hp → Prop} (C0 : Mx p s m c cX4_add 16 args yX4_add.cls G) (Y : My meth none)  : ∀ (S : Hp) (H : Heap) (locs : List Loc) (ls : Array Slot), wX4_add_b0 x0 x1 x2 x4 Φ S → Ok G S H → va_S (Ab G.b) s.heap H locs → lv_has ls 16 [(0, .ref x0), (1, .int x1), (2, .long x2), (4, .long x4)] → W p l e rm_X4_add s m args below meth c H locs 0 0 (MQ below (gQ G (PV Φ)) args s rm_X4_add.cells rm_X4_add.slots (Ab G.b)) (F0 m 0 ls []) := by
  intro S H locs ls h hO hS hl
  unfold wX4_add_b0 at h
  refine lv_aload_n C0.1 C0.2.1 dX4_add_0 rfl (lv_at hl 0 rfl) ?_
  refine lv_iload_n C0.1 C0.2.1 dX4_add_1 rfl (lv_at hl 1 rfl) ?_
  obtain ⟨i3, h⟩ := h
  refine c_V C0 hO hS (mX4_has h) i3 (by decide) rfl rfl tb_360 tb_362 tb_6 tb_31 tb_363 hd_X4_has rfl ⟨⟨by decide, by decide⟩, by decide, by decide⟩ hl.1 rfl (Nat.le_of_ble_eq_true rfl) dX4_add_2 (kI (fun r2 S1 H locs h hO hS => ?_))
  refine lv_if_eq (tgt := 15) C0.1 C0.2.1 dX4_add_5 (by decide) (fun c4 => ?_) (fun c4 => ?_)
  · have h := h.1 c4
    exact e_V C0 Y hO hS h (Nat.le_refl _) (Nat.le_refl _) dX4_add_15
  · have h := h.2 c4
    refine lv_lload C0.1 C0.2.1 dX4_add_8 (lv_at hl 3 rfl) ?_
    refine lv_lconst (v := 0) C0.1 C0.2.1 dX4_add_10 (by decide) ?_
    refine W.lcmp C0.1 C0.2.1 dX4_add_11 ?_
    refine lv_if_gt (tgt := 16) C0.1 C0.2.1 dX4_add_12 (by decide) (fun c5 => ?_) (fun c5 => ?_)
    · have h := h.1 c5
      refine lv_aload_n C0.1 C0.2.1 dX4_add_16 rfl (lv_at hl 0 rfl) ?_
      obtain ⟨i6, h⟩ := h
      obtain ⟨a7, ea7, h⟩ := h
      refine g4_1 C0 hO i6 ea7 tb_96 dX4_add_17 ?_
      refine lv_iload_n C0.1 C0.2.1 dX4_add_20 rfl (lv_at hl 1 rfl) ?_
      obtain ⟨i8, h⟩ := h
      obtain ⟨e9, h⟩ := h
      refine r_lald C0 hO i8 e9 dX4_add_21 ?_
      refine lv_lload C0.1 C0.2.1 dX4_add_22 (lv_at hl 3 rfl) ?_
      refine c_S C0 hO hS (mX3_commonOf h) tb_357 tb_358 tb_44 tb_359 hd_X3_commonOf rfl ⟨⟨by decide, by decide⟩, by decide, by decide⟩ hl.1 rfl (Nat.le_of_ble_eq_true rfl) dX4_add_24 (kJ (fun r11 S10 H locs h hO hS => ?_))
      refine lv_lstore C0.1 C0.2.1 dX4_add_27 hl (by decide) rfl (fun ls hl => ?_)
      refine lv_lload C0.1 C0.2.1 dX4_add_29 (lv_at hl 0 rfl) ?_
      refine lv_lconst (v := 0) C0.1 C0.2.1 dX4_add_31 (by decide) ?_
      refine W.lcmp C0.1 C0.2.1 dX4_add_32 ?_
      refine lv_if_gt (tgt := 37) C0.1 C0.2.1 dX4_add_33 (by decide) (fun c12 => ?_) (fun c12 => ?_)
      · have h := h.1 c12
        refine lv_aload_n C0.1 C0.2.1 dX4_add_37 rfl (lv_at hl 1 rfl) ?_
        obtain ⟨i13, h⟩ := h
        obtain ⟨a14, ea14, h⟩ := h
        refine g4_1 C0 hO i13 ea14 tb_96 dX4_add_38 ?_
        refine lv_iload_n C0.1 C0.2.1 dX4_add_41 rfl (lv_at hl 2 rfl) ?_
        obtain ⟨i15, h⟩ := h
        obtain ⟨e16, h⟩ := h
        refine r_lald C0 hO i15 e16 dX4_add_42 ?_
        refine lv_lload C0.1 C0.2.1 dX4_add_43 (lv_at hl 0 rfl) ?_
        obtain ⟨e17, h⟩ := h
        refine lv_ldiv C0.1 C0.2.1 dX4_add_45 e17 ?_
        refine lv_lstore C0.1 C0.2.1 dX4_add_46 hl (by decide) rfl (fun ls hl => ?_)
        refine lv_aload_n C0.1 C0.2.1 dX4_add_48 rfl (lv_at hl 2 rfl) ?_
        obtain ⟨a18, ea18, h⟩ := h
        refine g4_0 C0 hO i13 ea18 tb_95 dX4_add_49 ?_
        refine lv_iload_n C0.1 C0.2.1 dX4_add_52 rfl (lv_at hl 3 rfl) ?_
        obtain ⟨i19, h⟩ := h
        obtain ⟨e20, h⟩ := h
        refine r_lald C0 hO i19 e20 dX4_add_53 ?_
        refine lv_lload C0.1 C0.2.1 dX4_add_54 (lv_at hl 5 rfl) ?_
        refine lv_lload C0.1 C0.2.1 dX4_add_56 (lv_at hl 1 rfl) ?_
        obtain ⟨e21, h⟩ := h
        refine lv_ldiv C0.1 C0.2.1 dX4_add_58 e21 ?_
        refine lv_lmul C0.1 C0.2.1 dX4_add_59 ?_
        refine lv_lload_n C0.1 C0.2.1 dX4_add_60 rfl (lv_at hl 4 rfl) ?_
        refine lv_lload C0.1 C0.2.1 dX4_add_61 (lv_at hl 0 rfl) ?_
        refine lv_lmul C0.1 C0.2.1 dX4_add_63 ?_
        refine lv_ladd C0.1 C0.2.1 dX4_add_64 ?_
        refine lv_lstore C0.1 C0.2.1 dX4_add_65 hl (by decide) rfl (fun ls hl => ?_)
        refine lv_lload C0.1 C0.2.1 dX4_add_67 (lv_at hl 1 rfl) ?_
        refine lv_lload C0.1 C0.2.1 dX4_add_69 (lv_at hl 6 rfl) ?_
        refine lv_lmul C0.1 C0.2.1 dX4_add_71 ?_
        refine lv_lstore C0.1 C0.2.1 dX4_add_72 hl (by decide) rfl (fun ls hl => ?_)
        refine lv_lload C0.1 C0.2.1 dX4_add_74 (lv_at hl 1 rfl) ?_
        refine lv_lload C0.1 C0.2.1 dX4_add_76 (lv_at hl 0 rfl) ?_
        refine c_S C0 hO hS (mX3_commonOf h) tb_357 tb_358 tb_44 tb_359 hd_X3_commonOf rfl ⟨⟨by decide, by decide⟩, by decide, by decide⟩ hl.1 rfl (Nat.le_of_ble_eq_true rfl) dX4_add_78 (kJ (fun r23 S22 H locs h hO hS => ?_))
        refine lv_lstore C0.1 C0.2.1 dX4_add_81 hl (by decide) rfl (fun ls hl => ?_)
        refine lv_lload C0.1 C0.2.1 dX4_add_83 (lv_at hl 0 rfl) ?_
        refine lv_lconst (v := 0) C0.1 C0.2.1 dX4_add_85 (by decide) ?_
        refine W.lcmp C0.1 C0.2.1 dX4_add_86 ?_
        refine lv_if_le (tgt := 112) C0.1 C0.2.1 dX4_add_87 (by decide) (fun c24 => ?_) (fun c24 => ?_)
        · have h := h.1 c24
          exact e_V C0 Y hO hS h (Nat.le_refl _) (Nat.le_refl _) dX4_add_112
        · have h := h.2 c24
          refine lv_aload_n C0.1 C0.2.1 dX4_add_90 rfl (lv_at hl 5 rfl) ?_
          obtain ⟨i25, h⟩ := h
          obtain ⟨a26, ea26, h⟩ := h
          refine g4_0 C0 hO i25 ea26 tb_95 dX4_add_91 ?_
          refine lv_iload_n C0.1 C0.2.1 dX4_add_94 rfl (lv_at hl 6 rfl) ?_
          refine lv_lload C0.1 C0.2.1 dX4_add_95 (lv_at hl 2 rfl) ?_
          refine lv_lload C0.1 C0.2.1 dX4_add_97 (lv_at hl 0 rfl) ?_
          obtain ⟨e27, h⟩ := h
          refine lv_ldiv C0.1 C0.2.1 dX4_add_99 e27 ?_
          obtain ⟨i28, h⟩ := h
          obtain ⟨e29, h⟩ := h
          refine r_last C0 hO hS i28 e29 dX4_add_100 (fun H locs hO hS => ?_)
          have h := h _ rfl
          refine lv_aload_n C0.1 C0.2.1 dX4_add_101 rfl (lv_at hl 5 rfl) ?_
          obtain ⟨a31, ea31, h⟩ := h
          refine g4_1 C0 hO (sA_AJ i25) ea31 tb_96 dX4_add_102 ?_
          refine lv_iload_n C0.1 C0.2.1 dX4_add_105 rfl (lv_at hl 6 rfl) ?_
          refine lv_lload C0.1 C0.2.1 dX4_add_106 (lv_at hl 1 rfl) ?_
          refine lv_lload C0.1 C0.2.1 dX4_add_108 (lv_at hl 0 rfl) ?_
          obtain ⟨e32, h⟩ := h
          refine lv_ldiv C0.1 C0.2.1 dX4_add_110 e32 ?_
          obtain ⟨i33, h⟩ := h
          obtain ⟨e34, h⟩ := h
          refine r_last C0 hO hS i33 e34 dX4_add_111 (fun H locs hO hS => ?_)
          have h := h _ rfl
          exact e_V C0 Y hO hS h (Nat.le_refl _) (Nat.le_refl _) dX4_add_112
      · have h := h.2 c12
        exact e_V C0 Y hO hS h (Nat.le_refl _) (Nat.le_refl _) dX4_add_36
    · have h := h.2 c5
      exact e_V C0 Y hO hS h (Nat.le_refl _) (Nat.le_refl _) dX4_add_15
def wX4_add (S : Hp) (x0 : Nat) (x1 : Int32) (x2 : Int64) (x4 : Int64) (Φ : Hp → Prop) : Prop := wX4_add_b0 x0 x1 x2 x4 Φ S
set_option maxRecDepth 100000 in
theorem mX4_add {l : Launch} {G : Gw} {S : Hp} {x0 : Nat} {x1 : Int32} {x2 : Int64} {x4 : Int64} {Φ : Hp → Prop} (h : wX4_add S x0 x1 x2 x4 Φ) : gM l yX4_add cX4_add 16 none rm_X4_add [.ref x0, .int x1, .long x2, .long x4] G S (PV Φ) := by
  unfold gM
  refine Met.ofW (cc := cX4_add) (maxL := 16) (ret := none) (by decide) rfl ?_
  intro p e s m args below meth c s₁ B hml hv
  obtain ⟨rfl, hw⟩ := hv
  obtain ⟨C0, Y, hO⟩ := mx_of B hml hw
  have hS : va_S (Ab G.b) s.heap s.heap [] := va_S.rf
  have hl := lv_entry ([.ref x0, .int x1, .long x2, .long x4]) (n := 16) (Nat.le_of_ble_eq_true rfl)
  rw [lg_entry_eq]
  generalize (lg_sl ([.ref x0, .int x1, .long x2, .long x4]) ++ List.replicate (16 - (lg_sl ([.ref x0, .int x1, .long x2, .long x4])).length) Slot.unset).toArray = ls at hl ⊢
  have hl : lv_has ls 16 [(0, .ref x0), (1, .int x1), (2, .long x2), (4, .long x4)] := hl
  exact bX4_add_b0 C0 Y S _ _ _ h hO hS hl

def rm_X4_isWholeTimes : Room := { frames := 2, cells := 0, slots := 0, locals := 42 }
def wX4_isWholeTimes_b0 (x0 : Nat) (x1 : Int32) (x2 : Int64) (Φ : Hp → Int32 → Prop) (S : Hp) : Prop := isA S x0 4 ∧ wX4_underAt S x0 x1 (fun S1 r2 => (((lg_cmp r2 0) ≤ 0 → Φ S1 0) ∧ (¬ ((lg_cmp r2 0) ≤ 0) → isA S1 x0 4 ∧ wX4_overAt S1 x0 x1 (fun S5 r6 => ¬ r2 = 0 ∧ ((¬ (lg_cmp ((r6 * x2) - (r6 * x2) / r2 * r2) 0) = 0 → Φ S5 0) ∧ ((lg_cmp ((r6 * x2) - (r6 * x2) / r2 * r2) 0) = 0 → Φ S5 1))))))
set_option maxHeartbeats 4000000 in
set_option maxRecDepth 100000 in
theorem bX4_isWholeTimes_b0 {p : Program} {l : Launch} {e : Env} {s : State} {m : MethodId} {args : Array Value} {below : List Frame} {meth : Method} {c : Code} {G : Gw} {x0 : Nat} {x1 : Int32} {x2 : Int64} {Φ : Hp → Int32 → Prop} (C0 : Mx p s m c cX4_isWholeTimes 6 args yX4_isWholeTimes.cls G) (Y : My meth (some .boolean))  : ∀ (S : Hp) (H : Heap) (locs : List Loc) (ls : Array Slot), wX4_isWholeTimes_b0 x0 x1 x2 Φ S → Ok G S H → va_S (Ab G.b) s.heap H locs → lv_has ls 6 [(0, .ref x0), (1, .int x1), (2, .long x2)] → W p l e rm_X4_isWholeTimes s m args below meth c H locs 0 0 (MQ below (gQ G (PI Φ)) args s rm_X4_isWholeTimes.cells rm_X4_isWholeTimes.slots (Ab G.b)) (F0 m 0 ls []) := by
  intro S H locs ls h hO hS hl
  unfold wX4_isWholeTimes_b0 at h
  refine lv_aload_n C0.1 C0.2.1 dX4_isWholeTimes_0 rfl (lv_at hl 0 rfl) ?_
  refine lv_iload_n C0.1 C0.2.1 dX4_isWholeTimes_1 rfl (lv_at hl 1 rfl) ?_
  obtain ⟨i3, h⟩ := h
  refine c_V C0 hO hS (mX4_underAt h) i3 (by decide) rfl rfl tb_429 tb_411 tb_412 tb_31 tb_413 hd_X4_underAt rfl ⟨⟨by decide, by decide⟩, by decide, by decide⟩ hl.1 rfl (Nat.le_of_ble_eq_true rfl) dX4_isWholeTimes_2 (kJ (fun r2 S1 H locs h hO hS => ?_))
  refine lv_lstore C0.1 C0.2.1 dX4_isWholeTimes_5 hl (by decide) rfl (fun ls hl => ?_)
  refine lv_lload C0.1 C0.2.1 dX4_isWholeTimes_7 (lv_at hl 0 rfl) ?_
  refine lv_lconst (v := 0) C0.1 C0.2.1 dX4_isWholeTimes_9 (by decide) ?_
  refine W.lcmp C0.1 C0.2.1 dX4_isWholeTimes_10 ?_
  refine lv_if_le (tgt := 33) C0.1 C0.2.1 dX4_isWholeTimes_11 (by decide) (fun c4 => ?_) (fun c4 => ?_)
  · have h := h.1 c4
    refine lv_iconst (v := 0) C0.1 C0.2.1 dX4_isWholeTimes_33 (by decide) ?_
    exact e_Z C0 Y hO hS rfl h (Nat.le_refl _) (Nat.le_refl _) dX4_isWholeTimes_34
  · have h := h.2 c4
    refine lv_aload_n C0.1 C0.2.1 dX4_isWholeTimes_14 rfl (lv_at hl 1 rfl) ?_
    refine lv_iload_n C0.1 C0.2.1 dX4_isWholeTimes_15 rfl (lv_at hl 2 rfl) ?_
    obtain ⟨i7, h⟩ := h
    refine c_V C0 hO hS (mX4_overAt h) i7 (by decide) rfl rfl tb_383 tb_384 tb_385 tb_31 tb_386 hd_X4_overAt rfl ⟨⟨by decide, by decide⟩, by decide, by decide⟩ hl.1 rfl (Nat.le_of_ble_eq_true rfl) dX4_isWholeTimes_16 (kJ (fun r6 S5 H locs h hO hS => ?_))
    refine lv_lload_n C0.1 C0.2.1 dX4_isWholeTimes_19 rfl (lv_at hl 3 rfl) ?_
    refine lv_lmul C0.1 C0.2.1 dX4_isWholeTimes_20 ?_
    refine lv_lload C0.1 C0.2.1 dX4_isWholeTimes_21 (lv_at hl 0 rfl) ?_
    obtain ⟨e8, h⟩ := h
    refine lv_lrem C0.1 C0.2.1 dX4_isWholeTimes_23 e8 ?_
    refine lv_lconst (v := 0) C0.1 C0.2.1 dX4_isWholeTimes_24 (by decide) ?_
    refine W.lcmp C0.1 C0.2.1 dX4_isWholeTimes_25 ?_
    refine lv_if_ne (tgt := 33) C0.1 C0.2.1 dX4_isWholeTimes_26 (by decide) (fun c9 => ?_) (fun c9 => ?_)
    · have h := h.1 c9
      refine lv_iconst (v := 0) C0.1 C0.2.1 dX4_isWholeTimes_33 (by decide) ?_
      exact e_Z C0 Y hO hS rfl h (Nat.le_refl _) (Nat.le_refl _) dX4_isWholeTimes_34
    · have h := h.2 c9
      refine lv_iconst (v := 1) C0.1 C0.2.1 dX4_isWholeTimes_29 (by decide) ?_
      refine lv_goto (tgt := 34) C0.1 C0.2.1 dX4_isWholeTimes_30 (by decide) ?_
      exact e_Z C0 Y hO hS rfl h (Nat.le_refl _) (Nat.le_refl _) dX4_isWholeTimes_34
def wX4_isWholeTimes (S : Hp) (x0 : Nat) (x1 : Int32) (x2 : Int64) (Φ : Hp → Int32 → Prop) : Prop := wX4_isWholeTimes_b0 x0 x1 x2 Φ S
set_option maxRecDepth 100000 in
theorem mX4_isWholeTimes {l : Launch} {G : Gw} {S : Hp} {x0 : Nat} {x1 : Int32} {x2 : Int64} {Φ : Hp → Int32 → Prop} (h : wX4_isWholeTimes S x0 x1 x2 Φ) : gM l yX4_isWholeTimes cX4_isWholeTimes 6 (some .boolean) rm_X4_isWholeTimes [.ref x0, .int x1, .long x2] G S (PI Φ) := by
  unfold gM
  refine Met.ofW (cc := cX4_isWholeTimes) (maxL := 6) (ret := (some .boolean)) (by decide) rfl ?_
  intro p e s m args below meth c s₁ B hml hv
  obtain ⟨rfl, hw⟩ := hv
  obtain ⟨C0, Y, hO⟩ := mx_of B hml hw
  have hS : va_S (Ab G.b) s.heap s.heap [] := va_S.rf
  have hl := lv_entry ([.ref x0, .int x1, .long x2]) (n := 6) (Nat.le_of_ble_eq_true rfl)
  rw [lg_entry_eq]
  generalize (lg_sl ([.ref x0, .int x1, .long x2]) ++ List.replicate (6 - (lg_sl ([.ref x0, .int x1, .long x2])).length) Slot.unset).toArray = ls at hl ⊢
  have hl : lv_has ls 6 [(0, .ref x0), (1, .int x1), (2, .long x2)] := hl
  exact bX4_isWholeTimes_b0 C0 Y S _ _ _ h hO hS hl

def rm_X4_wholeTimes : Room := { frames := 1, cells := 0, slots := 0, locals := 25 }
def wX4_wholeTimes_b0 (x0 : Nat) (x1 : Int32) (x2 : Int64) (Φ : Hp → Int64 → Prop) (S : Hp) : Prop := isA S x0 4 ∧ wX4_has S x0 x1 (fun S1 r2 => ((r2 = 0 → Φ S1 0) ∧ (¬ (r2 = 0) → isA S1 x0 4 ∧ ∃ a6, S1.FR 257 x0 = some a6 ∧ isA S1 a6 22 ∧ vp_in x1 (S1.N a6) ∧ ((0 < (lg_cmp (S1.AJ a6 x1.toNatClampNeg) 0) → ∃ a10, S1.FR 256 x0 = some a10 ∧ isA S1 a10 22 ∧ vp_in x1 (S1.N a10) ∧ ∃ a13, S1.FR 257 x0 = some a13 ∧ isA S1 a13 22 ∧ vp_in x1 (S1.N a13) ∧ wJ9_floorMod_f86c9 S1 (S1.AJ a10 x1.toNatClampNeg) (S1.AJ a13 x1.toNatClampNeg) (fun S16 r17 => isA S16 x0 4 ∧ ∃ a19, S16.FR 256 x0 = some a19 ∧ isA S16 a19 22 ∧ vp_in x1 (S16.N a19) ∧ ∃ a22, S16.FR 257 x0 = some a22 ∧ isA S16 a22 22 ∧ vp_in x1 (S16.N a22) ∧ wJ9_floorDiv_f86c9 S16 (S16.AJ a19 x1.toNatClampNeg) (S16.AJ a22 x1.toNatClampNeg) (fun S25 r26 => isA S25 x0 4 ∧ ∃ a28, S25.FR 257 x0 = some a28 ∧ isA S25 a28 22 ∧ vp_in x1 (S25.N a28) ∧ wJ9_floorDiv_f86c9 S25 (r17 * x2) (S25.AJ a28 x1.toNatClampNeg) (fun S31 r32 => Φ S31 ((r26 * x2) + r32))))) ∧ (¬ (0 < (lg_cmp (S1.AJ a6 x1.toNatClampNeg) 0)) → Φ S1 0)))))
set_option maxHeartbeats 4000000 in
set_option maxRecDepth 100000 in
theorem bX4_wholeTimes_b0 {p : Program} {l : Launch} {e : Env} {s : State} {m : MethodId} {args : Array Value} {below : List Frame} {meth : Method} {c : Code} {G : Gw} {x0 : Nat} {x1 : Int32} {x2 : Int64} {Φ : Hp → Int64 → Prop} (C0 : Mx p s m c cX4_wholeTimes 6 args yX4_wholeTimes.cls G) (Y : My meth (some .long))  : ∀ (S : Hp) (H : Heap) (locs : List Loc) (ls : Array Slot), wX4_wholeTimes_b0 x0 x1 x2 Φ S → Ok G S H → va_S (Ab G.b) s.heap H locs → lv_has ls 6 [(0, .ref x0), (1, .int x1), (2, .long x2)] → W p l e rm_X4_wholeTimes s m args below meth c H locs 0 0 (MQ below (gQ G (PJ Φ)) args s rm_X4_wholeTimes.cells rm_X4_wholeTimes.slots (Ab G.b)) (F0 m 0 ls []) := by
  intro S H locs ls h hO hS hl
  unfold wX4_wholeTimes_b0 at h
  refine lv_aload_n C0.1 C0.2.1 dX4_wholeTimes_0 rfl (lv_at hl 0 rfl) ?_
  refine lv_iload_n C0.1 C0.2.1 dX4_wholeTimes_1 rfl (lv_at hl 1 rfl) ?_
  obtain ⟨i3, h⟩ := h
  refine c_V C0 hO hS (mX4_has h) i3 (by decide) rfl rfl tb_360 tb_362 tb_6 tb_31 tb_363 hd_X4_has rfl ⟨⟨by decide, by decide⟩, by decide, by decide⟩ hl.1 rfl (Nat.le_of_ble_eq_true rfl) dX4_wholeTimes_2 (kI (fun r2 S1 H locs h hO hS => ?_))
  refine lv_if_eq (tgt := 19) C0.1 C0.2.1 dX4_wholeTimes_5 (by decide) (fun c4 => ?_) (fun c4 => ?_)
  · have h := h.1 c4
    refine lv_lconst (v := 0) C0.1 C0.2.1 dX4_wholeTimes_19 (by decide) ?_
    exact e_J C0 Y hO hS h (Nat.le_refl _) (Nat.le_refl _) dX4_wholeTimes_20
  · have h := h.2 c4
    refine lv_aload_n C0.1 C0.2.1 dX4_wholeTimes_8 rfl (lv_at hl 0 rfl) ?_
    obtain ⟨i5, h⟩ := h
    obtain ⟨a6, ea6, h⟩ := h
    refine g4_1 C0 hO i5 ea6 tb_96 dX4_wholeTimes_9 ?_
    refine lv_iload_n C0.1 C0.2.1 dX4_wholeTimes_12 rfl (lv_at hl 1 rfl) ?_
    obtain ⟨i7, h⟩ := h
    obtain ⟨e8, h⟩ := h
    refine r_lald C0 hO i7 e8 dX4_wholeTimes_13 ?_
    refine lv_lconst (v := 0) C0.1 C0.2.1 dX4_wholeTimes_14 (by decide) ?_
    refine W.lcmp C0.1 C0.2.1 dX4_wholeTimes_15 ?_
    refine lv_if_gt (tgt := 21) C0.1 C0.2.1 dX4_wholeTimes_16 (by decide) (fun c9 => ?_) (fun c9 => ?_)
    · have h := h.1 c9
      refine lv_aload_n C0.1 C0.2.1 dX4_wholeTimes_21 rfl (lv_at hl 0 rfl) ?_
      obtain ⟨a10, ea10, h⟩ := h
      refine g4_0 C0 hO i5 ea10 tb_95 dX4_wholeTimes_22 ?_
      refine lv_iload_n C0.1 C0.2.1 dX4_wholeTimes_25 rfl (lv_at hl 1 rfl) ?_
      obtain ⟨i11, h⟩ := h
      obtain ⟨e12, h⟩ := h
      refine r_lald C0 hO i11 e12 dX4_wholeTimes_26 ?_
      refine lv_aload_n C0.1 C0.2.1 dX4_wholeTimes_27 rfl (lv_at hl 0 rfl) ?_
      obtain ⟨a13, ea13, h⟩ := h
      refine g4_1 C0 hO i5 ea13 tb_96 dX4_wholeTimes_28 ?_
      refine lv_iload_n C0.1 C0.2.1 dX4_wholeTimes_31 rfl (lv_at hl 1 rfl) ?_
      obtain ⟨i14, h⟩ := h
      obtain ⟨e15, h⟩ := h
      refine r_lald C0 hO i14 e15 dX4_wholeTimes_32 ?_
      refine c_S C0 hO hS (mJ9_floorMod_f86c9 h) tb_391 tb_392 tb_42 tb_393 hd_J9_floorMod_f86c9 rfl ⟨⟨by decide, by decide⟩, by decide, by decide⟩ hl.1 rfl (Nat.le_of_ble_eq_true rfl) dX4_wholeTimes_33 (kJ (fun r17 S16 H locs h hO hS => ?_))
      refine lv_lstore C0.1 C0.2.1 dX4_wholeTimes_36 hl (by decide) rfl (fun ls hl => ?_)
      refine lv_aload_n C0.1 C0.2.1 dX4_wholeTimes_38 rfl (lv_at hl 1 rfl) ?_
      obtain ⟨i18, h⟩ := h
      obtain ⟨a19, ea19, h⟩ := h
      refine g4_0 C0 hO i18 ea19 tb_95 dX4_wholeTimes_39 ?_
      refine lv_iload_n C0.1 C0.2.1 dX4_wholeTimes_42 rfl (lv_at hl 2 rfl) ?_
      obtain ⟨i20, h⟩ := h
      obtain ⟨e21, h⟩ := h
      refine r_lald C0 hO i20 e21 dX4_wholeTimes_43 ?_
      refine lv_aload_n C0.1 C0.2.1 dX4_wholeTimes_44 rfl (lv_at hl 1 rfl) ?_
      obtain ⟨a22, ea22, h⟩ := h
      refine g4_1 C0 hO i18 ea22 tb_96 dX4_wholeTimes_45 ?_
      refine lv_iload_n C0.1 C0.2.1 dX4_wholeTimes_48 rfl (lv_at hl 2 rfl) ?_
      obtain ⟨i23, h⟩ := h
      obtain ⟨e24, h⟩ := h
      refine r_lald C0 hO i23 e24 dX4_wholeTimes_49 ?_
      refine c_S C0 hO hS (mJ9_floorDiv_f86c9 h) tb_394 tb_395 tb_42 tb_396 hd_J9_floorDiv_f86c9 rfl ⟨⟨by decide, by decide⟩, by decide, by decide⟩ hl.1 rfl (Nat.le_of_ble_eq_true rfl) dX4_wholeTimes_50 (kJ (fun r26 S25 H locs h hO hS => ?_))
      refine lv_lload_n C0.1 C0.2.1 dX4_wholeTimes_53 rfl (lv_at hl 3 rfl) ?_
      refine lv_lmul C0.1 C0.2.1 dX4_wholeTimes_54 ?_
      refine lv_lload C0.1 C0.2.1 dX4_wholeTimes_55 (lv_at hl 0 rfl) ?_
      refine lv_lload_n C0.1 C0.2.1 dX4_wholeTimes_57 rfl (lv_at hl 3 rfl) ?_
      refine lv_lmul C0.1 C0.2.1 dX4_wholeTimes_58 ?_
      refine lv_aload_n C0.1 C0.2.1 dX4_wholeTimes_59 rfl (lv_at hl 1 rfl) ?_
      obtain ⟨i27, h⟩ := h
      obtain ⟨a28, ea28, h⟩ := h
      refine g4_1 C0 hO i27 ea28 tb_96 dX4_wholeTimes_60 ?_
      refine lv_iload_n C0.1 C0.2.1 dX4_wholeTimes_63 rfl (lv_at hl 2 rfl) ?_
      obtain ⟨i29, h⟩ := h
      obtain ⟨e30, h⟩ := h
      refine r_lald C0 hO i29 e30 dX4_wholeTimes_64 ?_
      refine c_S C0 hO hS (mJ9_floorDiv_f86c9 h) tb_394 tb_395 tb_42 tb_396 hd_J9_floorDiv_f86c9 rfl ⟨⟨by decide, by decide⟩, by decide, by decide⟩ hl.1 rfl (Nat.le_of_ble_eq_true rfl) dX4_wholeTimes_65 (kJ (fun r32 S31 H locs h hO hS => ?_))
      refine lv_ladd C0.1 C0.2.1 dX4_wholeTimes_68 ?_
      exact e_J C0 Y hO hS h (Nat.le_refl _) (Nat.le_refl _) dX4_wholeTimes_69
    · have h := h.2 c9
      refine lv_lconst (v := 0) C0.1 C0.2.1 dX4_wholeTimes_19 (by decide) ?_
      exact e_J C0 Y hO hS h (Nat.le_refl _) (Nat.le_refl _) dX4_wholeTimes_20
def wX4_wholeTimes (S : Hp) (x0 : Nat) (x1 : Int32) (x2 : Int64) (Φ : Hp → Int64 → Prop) : Prop := wX4_wholeTimes_b0 x0 x1 x2 Φ S
set_option maxRecDepth 100000 in
theorem mX4_wholeTimes {l : Launch} {G : Gw} {S : Hp} {x0 : Nat} {x1 : Int32} {x2 : Int64} {Φ : Hp → Int64 → Prop} (h : wX4_wholeTimes S x0 x1 x2 Φ) : gM l yX4_wholeTimes cX4_wholeTimes 6 (some .long) rm_X4_wholeTimes [.ref x0, .int x1, .long x2] G S (PJ Φ) := by
  unfold gM
  refine Met.ofW (cc := cX4_wholeTimes) (maxL := 6) (ret := (some .long)) (by decide) rfl ?_
  intro p e s m args below meth c s₁ B hml hv
  obtain ⟨rfl, hw⟩ := hv
  obtain ⟨C0, Y, hO⟩ := mx_of B hml hw
  have hS : va_S (Ab G.b) s.heap s.heap [] := va_S.rf
  have hl := lv_entry ([.ref x0, .int x1, .long x2]) (n := 6) (Nat.le_of_ble_eq_true rfl)
  rw [lg_entry_eq]
  generalize (lg_sl ([.ref x0, .int x1, .long x2]) ++ List.replicate (6 - (lg_sl ([.ref x0, .int x1, .long x2])).length) Slot.unset).toArray = ls at hl ⊢
  have hl : lv_has ls 6 [(0, .ref x0), (1, .int x1), (2, .long x2)] := hl
  exact bX4_wholeTimes_b0 C0 Y S _ _ _ h hO hS hl
