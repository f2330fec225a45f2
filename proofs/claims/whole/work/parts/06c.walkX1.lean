def rm_X0_init : Room := { frames := 1, cells := 0, slots := 0, locals := 12 }
def wX0_init_b0 (x0 : Nat) (x1 : Int32) (x2 : Int32) (x3 : Int32) (x4 : Int32) (Φ : Hp → Prop) (S : Hp) : Prop := isA S x0 0 ∧ ∀ S2, S2 = S.setFI 0 x0 x1 → ∀ S3, S3 = S2.setFI 1 x0 x2 → ∀ S4, S4 = S3.setFI 2 x0 x3 → ∀ S5, S5 = S4.setFI 3 x0 x4 → Φ S5
set_option maxHeartbeats 4000000 in
set_option maxRecDepth 100000 in
theorem bX0_init_b0 {p : Program} {l : Launch} {e : Env} {s : State} {m : MethodId} {args : Array Value} {below : List Frame} {meth : Method} {c : Code} {G : Gw} {x0 : Nat} {x1 : Int32} {x2 : Int32} {x3 : Int32} {x4 : Int32} {Φ : Hp → Prop} (C0 : Mx p s m c cX0_init 5 args yX0_init.cls G) (Y : My meth none) (hin9 : meth.name = "<init>")  : ∀ (S : Hp) (H : Heap) (locs : List Loc) (ls : Array Slot), wX0_init_b0 x0 x1 x2 x3 x4 Φ S → Ok G S H → va_S (Ab G.b) s.heap H locs → lv_has ls 5 [(0, .ref x0), (1, .int x1), (2, .int x2), (3, .int x3), (4, .int x4)] → W p l e rm_X0_init s m args below meth c H locs 0 0 (MQ below (gQ G (PV Φ)) args s rm_X0_init.cells rm_X0_init.slots (Ab G.b)) (F0 m 0 ls []) := by
  intro S H locs ls h hO hS hl
  unfold wX0_init_b0 at h
  refine lv_aload_n C0.1 C0.2.1 dX0_init_0 rfl (lv_at hl 0 rfl) ?_
  refine W.objInit C0.1 C0.2.1 C0.2.2.2.1 (C0.2.2.2.2.1 _ tb_1190) (C0.2.2.2.2.1 _ tb_109) (C0.2.2.2.2.1 _ tb_110) rfl (hl.1.trans C0.2.2.1.symm) rfl dX0_init_1 (Nat.le_of_ble_eq_true rfl) (Nat.le_of_ble_eq_true rfl) ?_
  refine W.eq (g2 := F0 _ 4 _ _) rfl ?_
  refine lv_aload_n C0.1 C0.2.1 dX0_init_4 rfl (lv_at hl 0 rfl) ?_
  refine lv_iload_n C0.1 C0.2.1 dX0_init_5 rfl (lv_at hl 1 rfl) ?_
  obtain ⟨i1, h⟩ := h
  refine p0_0 C0 hO hS i1 hin9 rfl tb_1191 dX0_init_6 (fun H locs hO hS => ?_)
  have h := h _ rfl
  refine lv_aload_n C0.1 C0.2.1 dX0_init_9 rfl (lv_at hl 0 rfl) ?_
  refine lv_iload_n C0.1 C0.2.1 dX0_init_10 rfl (lv_at hl 2 rfl) ?_
  refine p0_1 C0 hO hS (sA_FI i1) hin9 rfl tb_1192 dX0_init_11 (fun H locs hO hS => ?_)
  have h := h _ rfl
  refine lv_aload_n C0.1 C0.2.1 dX0_init_14 rfl (lv_at hl 0 rfl) ?_
  refine lv_iload_n C0.1 C0.2.1 dX0_init_15 rfl (lv_at hl 3 rfl) ?_
  refine p0_2 C0 hO hS (sA_FI (sA_FI i1)) hin9 rfl tb_1193 dX0_init_16 (fun H locs hO hS => ?_)
  have h := h _ rfl
  refine lv_aload_n C0.1 C0.2.1 dX0_init_19 rfl (lv_at hl 0 rfl) ?_
  refine lv_iload C0.1 C0.2.1 dX0_init_20 (lv_at hl 4 rfl) ?_
  refine p0_3 C0 hO hS (sA_FI (sA_FI (sA_FI i1))) hin9 rfl tb_1194 dX0_init_22 (fun H locs hO hS => ?_)
  have h := h _ rfl
  exact e_V C0 Y hO hS h (Nat.le_refl _) (Nat.le_refl _) dX0_init_25
def wX0_init (S : Hp) (x0 : Nat) (x1 : Int32) (x2 : Int32) (x3 : Int32) (x4 : Int32) (Φ : Hp → Prop) : Prop := wX0_init_b0 x0 x1 x2 x3 x4 Φ S
set_option maxRecDepth 100000 in
theorem mX0_init {l : Launch} {G : Gw} {S : Hp} {x0 : Nat} {x1 : Int32} {x2 : Int32} {x3 : Int32} {x4 : Int32} {Φ : Hp → Prop} (h : wX0_init S x0 x1 x2 x3 x4 Φ) : gM l yX0_init cX0_init 5 none rm_X0_init [.ref x0, .int x1, .int x2, .int x3, .int x4] G S (PV Φ) := by
  unfold gM
  refine Met.ofW (cc := cX0_init) (maxL := 5) (ret := none) (by decide) rfl ?_
  intro p e s m args below meth c s₁ B hml hv
  obtain ⟨rfl, hw⟩ := hv
  obtain ⟨C0, Y, hO⟩ := mx_of B hml hw
  have hS : va_S (Ab G.b) s.heap s.heap [] := va_S.rf
  have hin9 : meth.name = "<init>" := (name_of_methodNamed B.named B.method).1
  have hl := lv_entry ([.ref x0, .int x1, .int x2, .int x3, .int x4]) (n := 5) (Nat.le_of_ble_eq_true rfl)
  rw [lg_entry_eq]
  generalize (lg_sl ([.ref x0, .int x1, .int x2, .int x3, .int x4]) ++ List.replicate (5 - (lg_sl ([.ref x0, .int x1, .int x2, .int x3, .int x4])).length) Slot.unset).toArray = ls at hl ⊢
  have hl : lv_has ls 5 [(0, .ref x0), (1, .int x1), (2, .int x2), (3, .int x3), (4, .int x4)] := hl
  exact bX0_init_b0 C0 Y hin9 S _ _ _ h hO hS hl

def rm_X0_letterOf : Room := { frames := 0, cells := 0, slots := 0, locals := 0 }
def wX0_letterOf_b0 (x0 : Nat) (x1 : Int32) (Φ : Hp → Int32 → Prop) (S : Hp) : Prop := isA S x0 0 ∧ ((¬ (S.FI 0 x0) = x1 → ((¬ (S.FI 2 x0) = x1 → ((¬ (S.FI 3 x0) = x1 → Φ S 111) ∧ ((S.FI 3 x0) = x1 → Φ S 100))) ∧ ((S.FI 2 x0) = x1 → Φ S 114))) ∧ ((S.FI 0 x0) = x1 → Φ S 99))
set_option maxHeartbeats 4000000 in
set_option maxRecDepth 100000 in
theorem bX0_letterOf_b0 {p : Program} {l : Launch} {e : Env} {s : State} {m : MethodId} {args : Array Value} {below : List Frame} {meth : Method} {c : Code} {G : Gw} {x0 : Nat} {x1 : Int32} {Φ : Hp → Int32 → Prop} (C0 : Mx p s m c cX0_letterOf 2 args yX0_letterOf.cls G) (Y : My meth (some .char))  : ∀ (S : Hp) (H : Heap) (locs : List Loc) (ls : Array Slot), wX0_letterOf_b0 x0 x1 Φ S → Ok G S H → va_S (Ab G.b) s.heap H locs → lv_has ls 2 [(0, .ref x0), (1, .int x1)] → W p l e rm_X0_letterOf s m args below meth c H locs 0 0 (MQ below (gQ G (PI Φ)) args s rm_X0_letterOf.cells rm_X0_letterOf.slots (Ab G.b)) (F0 m 0 ls []) := by
  intro S H locs ls h hO hS hl
  unfold wX0_letterOf_b0 at h
  refine lv_aload_n C0.1 C0.2.1 dX0_letterOf_0 rfl (lv_at hl 0 rfl) ?_
  obtain ⟨i1, h⟩ := h
  refine g0_0 C0 hO i1 tb_1191 dX0_letterOf_1 ?_
  refine lv_iload_n C0.1 C0.2.1 dX0_letterOf_4 rfl (lv_at hl 1 rfl) ?_
  refine lv_icmp_ne (tgt := 11) C0.1 C0.2.1 dX0_letterOf_5 (by decide) (fun c2 => ?_) (fun c2 => ?_)
  · have h := h.1 c2
    refine lv_aload_n C0.1 C0.2.1 dX0_letterOf_11 rfl (lv_at hl 0 rfl) ?_
    refine g0_2 C0 hO i1 tb_1193 dX0_letterOf_12 ?_
    refine lv_iload_n C0.1 C0.2.1 dX0_letterOf_15 rfl (lv_at hl 1 rfl) ?_
    refine lv_icmp_ne (tgt := 22) C0.1 C0.2.1 dX0_letterOf_16 (by decide) (fun c3 => ?_) (fun c3 => ?_)
    · have h := h.1 c3
      refine lv_aload_n C0.1 C0.2.1 dX0_letterOf_22 rfl (lv_at hl 0 rfl) ?_
      refine g0_3 C0 hO i1 tb_1194 dX0_letterOf_23 ?_
      refine lv_iload_n C0.1 C0.2.1 dX0_letterOf_26 rfl (lv_at hl 1 rfl) ?_
      refine lv_icmp_ne (tgt := 35) C0.1 C0.2.1 dX0_letterOf_27 (by decide) (fun c4 => ?_) (fun c4 => ?_)
      · have h := h.1 c4
        refine lv_bipush (v := 111) C0.1 C0.2.1 dX0_letterOf_35 (by decide) ?_
        exact e_Z C0 Y hO hS rfl h (Nat.le_refl _) (Nat.le_refl _) dX0_letterOf_37
      · have h := h.2 c4
        refine lv_bipush (v := 100) C0.1 C0.2.1 dX0_letterOf_30 (by decide) ?_
        refine lv_goto (tgt := 37) C0.1 C0.2.1 dX0_letterOf_32 (by decide) ?_
        exact e_Z C0 Y hO hS rfl h (Nat.le_refl _) (Nat.le_refl _) dX0_letterOf_37
    · have h := h.2 c3
      refine lv_bipush (v := 114) C0.1 C0.2.1 dX0_letterOf_19 (by decide) ?_
      exact e_Z C0 Y hO hS rfl h (Nat.le_refl _) (Nat.le_refl _) dX0_letterOf_21
  · have h := h.2 c2
    refine lv_bipush (v := 99) C0.1 C0.2.1 dX0_letterOf_8 (by decide) ?_
    exact e_Z C0 Y hO hS rfl h (Nat.le_refl _) (Nat.le_refl _) dX0_letterOf_10
def wX0_letterOf (S : Hp) (x0 : Nat) (x1 : Int32) (Φ : Hp → Int32 → Prop) : Prop := wX0_letterOf_b0 x0 x1 Φ S
set_option maxRecDepth 100000 in
theorem mX0_letterOf {l : Launch} {G : Gw} {S : Hp} {x0 : Nat} {x1 : Int32} {Φ : Hp → Int32 → Prop} (h : wX0_letterOf S x0 x1 Φ) : gM l yX0_letterOf cX0_letterOf 2 (some .char) rm_X0_letterOf [.ref x0, .int x1] G S (PI Φ) := by
  unfold gM
  refine Met.ofW (cc := cX0_letterOf) (maxL := 2) (ret := (some .char)) (by decide) rfl ?_
  intro p e s m args below meth c s₁ B hml hv
  obtain ⟨rfl, hw⟩ := hv
  obtain ⟨C0, Y, hO⟩ := mx_of B hml hw
  have hS : va_S (Ab G.b) s.heap s.heap [] := va_S.rf
  have hl := lv_entry ([.ref x0, .int x1]) (n := 2) (Nat.le_of_ble_eq_true rfl)
  rw [lg_entry_eq]
  generalize (lg_sl ([.ref x0, .int x1]) ++ List.replicate (2 - (lg_sl ([.ref x0, .int x1])).length) Slot.unset).toArray = ls at hl ⊢
  have hl : lv_has ls 2 [(0, .ref x0), (1, .int x1)] := hl
  exact bX0_letterOf_b0 C0 Y S _ _ _ h hO hS hl

def rm_X0_letter : Room := { frames := 1, cells := 0, slots := 0, locals := 21 }
def wX0_letter_b0 (x0 : Nat) (Φ : Hp → Int32 → Prop) (S : Hp) : Prop := isA S x0 0 ∧ (((if (if (S.FI 0 x0) < (S.FI 1 x0) then (S.FI 1 x0) else (S.FI 0 x0)) < (if (S.FI 2 x0) < (S.FI 3 x0) then (S.FI 3 x0) else (S.FI 2 x0)) then (if (S.FI 2 x0) < (S.FI 3 x0) then (S.FI 3 x0) else (S.FI 2 x0)) else (if (S.FI 0 x0) < (S.FI 1 x0) then (S.FI 1 x0) else (S.FI 0 x0))) < (((((S.FI 0 x0) + (S.FI 1 x0)) + (S.FI 2 x0)) + (S.FI 3 x0)) - (if (if (S.FI 0 x0) < (S.FI 1 x0) then (S.FI 1 x0) else (S.FI 0 x0)) < (if (S.FI 2 x0) < (S.FI 3 x0) then (S.FI 3 x0) else (S.FI 2 x0)) then (if (S.FI 2 x0) < (S.FI 3 x0) then (S.FI 3 x0) else (S.FI 2 x0)) else (if (S.FI 0 x0) < (S.FI 1 x0) then (S.FI 1 x0) else (S.FI 0 x0)))) → ((((if (if (S.FI 0 x0) < (S.FI 1 x0) then (S.FI 1 x0) else (S.FI 0 x0)) < (if (S.FI 2 x0) < (S.FI 3 x0) then (S.FI 3 x0) else (S.FI 2 x0)) then (if (S.FI 2 x0) < (S.FI 3 x0) then (S.FI 3 x0) else (S.FI 2 x0)) else (if (S.FI 0 x0) < (S.FI 1 x0) then (S.FI 1 x0) else (S.FI 0 x0))) + (if (if (S.FI 3 x0) < (S.FI 2 x0) then (S.FI 3 x0) else (S.FI 2 x0)) < (if (S.FI 1 x0) < (S.FI 0 x0) then (S.FI 1 x0) else (S.FI 0 x0)) then (if (S.FI 3 x0) < (S.FI 2 x0) then (S.FI 3 x0) else (S.FI 2 x0)) else (if (S.FI 1 x0) < (S.FI 0 x0) then (S.FI 1 x0) else (S.FI 0 x0)))) = (((((S.FI 0 x0) + (S.FI 1 x0)) + (S.FI 2 x0)) + (S.FI 3 x0)) - ((if (if (S.FI 0 x0) < (S.FI 1 x0) then (S.FI 1 x0) else (S.FI 0 x0)) < (if (S.FI 2 x0) < (S.FI 3 x0) then (S.FI 3 x0) else (S.FI 2 x0)) then (if (S.FI 2 x0) < (S.FI 3 x0) then (S.FI 3 x0) else (S.FI 2 x0)) else (if (S.FI 0 x0) < (S.FI 1 x0) then (S.FI 1 x0) else (S.FI 0 x0))) + (if (if (S.FI 3 x0) < (S.FI 2 x0) then (S.FI 3 x0) else (S.FI 2 x0)) < (if (S.FI 1 x0) < (S.FI 0 x0) then (S.FI 1 x0) else (S.FI 0 x0)) then (if (S.FI 3 x0) < (S.FI 2 x0) then (S.FI 3 x0) else (S.FI 2 x0)) else (if (S.FI 1 x0) < (S.FI 0 x0) then (S.FI 1 x0) else (S.FI 0 x0))))) → Φ S 101) ∧ (¬ (((if (if (S.FI 0 x0) < (S.FI 1 x0) then (S.FI 1 x0) else (S.FI 0 x0)) < (if (S.FI 2 x0) < (S.FI 3 x0) then (S.FI 3 x0) else (S.FI 2 x0)) then (if (S.FI 2 x0) < (S.FI 3 x0) then (S.FI 3 x0) else (S.FI 2 x0)) else (if (S.FI 0 x0) < (S.FI 1 x0) then (S.FI 1 x0) else (S.FI 0 x0))) + (if (if (S.FI 3 x0) < (S.FI 2 x0) then (S.FI 3 x0) else (S.FI 2 x0)) < (if (S.FI 1 x0) < (S.FI 0 x0) then (S.FI 1 x0) else (S.FI 0 x0)) then (if (S.FI 3 x0) < (S.FI 2 x0) then (S.FI 3 x0) else (S.FI 2 x0)) else (if (S.FI 1 x0) < (S.FI 0 x0) then (S.FI 1 x0) else (S.FI 0 x0)))) = (((((S.FI 0 x0) + (S.FI 1 x0)) + (S.FI 2 x0)) + (S.FI 3 x0)) - ((if (if (S.FI 0 x0) < (S.FI 1 x0) then (S.FI 1 x0) else (S.FI 0 x0)) < (if (S.FI 2 x0) < (S.FI 3 x0) then (S.FI 3 x0) else (S.FI 2 x0)) then (if (S.FI 2 x0) < (S.FI 3 x0) then (S.FI 3 x0) else (S.FI 2 x0)) else (if (S.FI 0 x0) < (S.FI 1 x0) then (S.FI 1 x0) else (S.FI 0 x0))) + (if (if (S.FI 3 x0) < (S.FI 2 x0) then (S.FI 3 x0) else (S.FI 2 x0)) < (if (S.FI 1 x0) < (S.FI 0 x0) then (S.FI 1 x0) else (S.FI 0 x0)) then (if (S.FI 3 x0) < (S.FI 2 x0) then (S.FI 3 x0) else (S.FI 2 x0)) else (if (S.FI 1 x0) < (S.FI 0 x0) then (S.FI 1 x0) else (S.FI 0 x0)))))) → (((((((S.FI 0 x0) + (S.FI 1 x0)) + (S.FI 2 x0)) + (S.FI 3 x0)) - ((if (if (S.FI 0 x0) < (S.FI 1 x0) then (S.FI 1 x0) else (S.FI 0 x0)) < (if (S.FI 2 x0) < (S.FI 3 x0) then (S.FI 3 x0) else (S.FI 2 x0)) then (if (S.FI 2 x0) < (S.FI 3 x0) then (S.FI 3 x0) else (S.FI 2 x0)) else (if (S.FI 0 x0) < (S.FI 1 x0) then (S.FI 1 x0) else (S.FI 0 x0))) + (if (if (S.FI 3 x0) < (S.FI 2 x0) then (S.FI 3 x0) else (S.FI 2 x0)) < (if (S.FI 1 x0) < (S.FI 0 x0) then (S.FI 1 x0) else (S.FI 0 x0)) then (if (S.FI 3 x0) < (S.FI 2 x0) then (S.FI 3 x0) else (S.FI 2 x0)) else (if (S.FI 1 x0) < (S.FI 0 x0) then (S.FI 1 x0) else (S.FI 0 x0))))) ≤ ((if (if (S.FI 0 x0) < (S.FI 1 x0) then (S.FI 1 x0) else (S.FI 0 x0)) < (if (S.FI 2 x0) < (S.FI 3 x0) then (S.FI 3 x0) else (S.FI 2 x0)) then (if (S.FI 2 x0) < (S.FI 3 x0) then (S.FI 3 x0) else (S.FI 2 x0)) else (if (S.FI 0 x0) < (S.FI 1 x0) then (S.FI 1 x0) else (S.FI 0 x0))) + (if (if (S.FI 3 x0) < (S.FI 2 x0) then (S.FI 3 x0) else (S.FI 2 x0)) < (if (S.FI 1 x0) < (S.FI 0 x0) then (S.FI 1 x0) else (S.FI 0 x0)) then (if (S.FI 3 x0) < (S.FI 2 x0) then (S.FI 3 x0) else (S.FI 2 x0)) else (if (S.FI 1 x0) < (S.FI 0 x0) then (S.FI 1 x0) else (S.FI 0 x0)))) → Φ S 116) ∧ (¬ ((((((S.FI 0 x0) + (S.FI 1 x0)) + (S.FI 2 x0)) + (S.FI 3 x0)) - ((if (if (S.FI 0 x0) < (S.FI 1 x0) then (S.FI 1 x0) else (S.FI 0 x0)) < (if (S.FI 2 x0) < (S.FI 3 x0) then (S.FI 3 x0) else (S.FI 2 x0)) then (if (S.FI 2 x0) < (S.FI 3 x0) then (S.FI 3 x0) else (S.FI 2 x0)) else (if (S.FI 0 x0) < (S.FI 1 x0) then (S.FI 1 x0) else (S.FI 0 x0))) + (if (if (S.FI 3 x0) < (S.FI 2 x0) then (S.FI 3 x0) else (S.FI 2 x0)) < (if (S.FI 1 x0) < (S.FI 0 x0) then (S.FI 1 x0) else (S.FI 0 x0)) then (if (S.FI 3 x0) < (S.FI 2 x0) then (S.FI 3 x0) else (S.FI 2 x0)) else (if (S.FI 1 x0) < (S.FI 0 x0) then (S.FI 1 x0) else (S.FI 0 x0))))) ≤ ((if (if (S.FI 0 x0) < (S.FI 1 x0) then (S.FI 1 x0) else (S.FI 0 x0)) < (if (S.FI 2 x0) < (S.FI 3 x0) then (S.FI 3 x0) else (S.FI 2 x0)) then (if (S.FI 2 x0) < (S.FI 3 x0) then (S.FI 3 x0) else (S.FI 2 x0)) else (if (S.FI 0 x0) < (S.FI 1 x0) then (S.FI 1 x0) else (S.FI 0 x0))) + (if (if (S.FI 3 x0) < (S.FI 2 x0) then (S.FI 3 x0) else (S.FI 2 x0)) < (if (S.FI 1 x0) < (S.FI 0 x0) then (S.FI 1 x0) else (S.FI 0 x0)) then (if (S.FI 3 x0) < (S.FI 2 x0) then (S.FI 3 x0) else (S.FI 2 x0)) else (if (S.FI 1 x0) < (S.FI 0 x0) then (S.FI 1 x0) else (S.FI 0 x0))))) → wX0_letterOf S x0 (if (if (S.FI 3 x0) < (S.FI 2 x0) then (S.FI 3 x0) else (S.FI 2 x0)) < (if (S.FI 1 x0) < (S.FI 0 x0) then (S.FI 1 x0) else (S.FI 0 x0)) then (if (S.FI 3 x0) < (S.FI 2 x0) then (S.FI 3 x0) else (S.FI 2 x0)) else (if (S.FI 1 x0) < (S.FI 0 x0) then (S.FI 1 x0) else (S.FI 0 x0))) (fun S5 r6 => narrow .char (.int r6) = .int r6 ∧ Φ S5 r6)))))) ∧ (¬ ((if (if (S.FI 0 x0) < (S.FI 1 x0) then (S.FI 1 x0) else (S.FI 0 x0)) < (if (S.FI 2 x0) < (S.FI 3 x0) then (S.FI 3 x0) else (S.FI 2 x0)) then (if (S.FI 2 x0) < (S.FI 3 x0) then (S.FI 3 x0) else (S.FI 2 x0)) else (if (S.FI 0 x0) < (S.FI 1 x0) then (S.FI 1 x0) else (S.FI 0 x0))) < (((((S.FI 0 x0) + (S.FI 1 x0)) + (S.FI 2 x0)) + (S.FI 3 x0)) - (if (if (S.FI 0 x0) < (S.FI 1 x0) then (S.FI 1 x0) else (S.FI 0 x0)) < (if (S.FI 2 x0) < (S.FI 3 x0) then (S.FI 3 x0) else (S.FI 2 x0)) then (if (S.FI 2 x0) < (S.FI 3 x0) then (S.FI 3 x0) else (S.FI 2 x0)) else (if (S.FI 0 x0) < (S.FI 1 x0) then (S.FI 1 x0) else (S.FI 0 x0))))) → Φ S 120))
set_option maxHeartbeats 4000000 in
set_option maxRecDepth 100000 in
theorem bX0_letter_b0 {p : Program} {l : Launch} {e : Env} {s : State} {m : MethodId} {args : Array Value} {below : List Frame} {meth : Method} {c : Code} {G : Gw} {x0 : Nat} {Φ : Hp → Int32 → Prop} (C0 : Mx p s m c cX0_letter 5 args yX0_letter.cls G) (Y : My meth (some .char))  : ∀ (S : Hp) (H : Heap) (locs : List Loc) (ls : Array Slot), wX0_letter_b0 x0 Φ S → Ok G S H → va_S (Ab G.b) s.heap H locs → lv_has ls 5 [(0, .ref x0)] → W p l e rm_X0_letter s m args below meth c H locs 0 0 (MQ below (gQ G (PI Φ)) args s rm_X0_letter.cells rm_X0_letter.slots (Ab G.b)) (F0 m 0 ls []) := by
  intro S H locs ls h hO hS hl
  unfold wX0_letter_b0 at h
  refine lv_aload_n C0.1 C0.2.1 dX0_letter_0 rfl (lv_at hl 0 rfl) ?_
  obtain ⟨i1, h⟩ := h
  refine g0_0 C0 hO i1 tb_1191 dX0_letter_1 ?_
  refine lv_aload_n C0.1 C0.2.1 dX0_letter_4 rfl (lv_at hl 0 rfl) ?_
  refine g0_1 C0 hO i1 tb_1192 dX0_letter_5 ?_
  refine va_mmax C0.1 C0.2.1 (C0.2.2.1.trans hl.1.symm) C0.2.2.2.1 (C0.2.2.2.2.1 _ tb_1208) (C0.2.2.2.2.1 _ tb_405) (C0.2.2.2.2.1 _ tb_94) (C0.2.2.2.2.1 _ tb_406) (Nat.le_of_ble_eq_true rfl) (Nat.le_of_ble_eq_true rfl) (by decide) (by decide) dX0_letter_8 ?_
  refine lv_aload_n C0.1 C0.2.1 dX0_letter_11 rfl (lv_at hl 0 rfl) ?_
  refine g0_2 C0 hO i1 tb_1193 dX0_letter_12 ?_
  refine lv_aload_n C0.1 C0.2.1 dX0_letter_15 rfl (lv_at hl 0 rfl) ?_
  refine g0_3 C0 hO i1 tb_1194 dX0_letter_16 ?_
  refine va_mmax C0.1 C0.2.1 (C0.2.2.1.trans hl.1.symm) C0.2.2.2.1 (C0.2.2.2.2.1 _ tb_1208) (C0.2.2.2.2.1 _ tb_405) (C0.2.2.2.2.1 _ tb_94) (C0.2.2.2.2.1 _ tb_406) (Nat.le_of_ble_eq_true rfl) (Nat.le_of_ble_eq_true rfl) (by decide) (by decide) dX0_letter_19 ?_
  refine va_mmax C0.1 C0.2.1 (C0.2.2.1.trans hl.1.symm) C0.2.2.2.1 (C0.2.2.2.2.1 _ tb_1208) (C0.2.2.2.2.1 _ tb_405) (C0.2.2.2.2.1 _ tb_94) (C0.2.2.2.2.1 _ tb_406) (Nat.le_of_ble_eq_true rfl) (Nat.le_of_ble_eq_true rfl) (by decide) (by decide) dX0_letter_22 ?_
  refine lv_istore_n C0.1 C0.2.1 dX0_letter_25 rfl hl (by decide) rfl (fun ls hl => ?_)
  refine lv_aload_n C0.1 C0.2.1 dX0_letter_26 rfl (lv_at hl 1 rfl) ?_
  refine g0_0 C0 hO i1 tb_1191 dX0_letter_27 ?_
  refine lv_aload_n C0.1 C0.2.1 dX0_letter_30 rfl (lv_at hl 1 rfl) ?_
  refine g0_1 C0 hO i1 tb_1192 dX0_letter_31 ?_
  refine va_mmin C0.1 C0.2.1 (C0.2.2.1.trans hl.1.symm) C0.2.2.2.1 (C0.2.2.2.2.1 _ tb_1209) (C0.2.2.2.2.1 _ tb_297) (C0.2.2.2.2.1 _ tb_94) (C0.2.2.2.2.1 _ tb_298) (Nat.le_of_ble_eq_true rfl) (Nat.le_of_ble_eq_true rfl) (by decide) (by decide) dX0_letter_34 ?_
  refine lv_aload_n C0.1 C0.2.1 dX0_letter_37 rfl (lv_at hl 1 rfl) ?_
  refine g0_2 C0 hO i1 tb_1193 dX0_letter_38 ?_
  refine lv_aload_n C0.1 C0.2.1 dX0_letter_41 rfl (lv_at hl 1 rfl) ?_
  refine g0_3 C0 hO i1 tb_1194 dX0_letter_42 ?_
  refine va_mmin C0.1 C0.2.1 (C0.2.2.1.trans hl.1.symm) C0.2.2.2.1 (C0.2.2.2.2.1 _ tb_1209) (C0.2.2.2.2.1 _ tb_297) (C0.2.2.2.2.1 _ tb_94) (C0.2.2.2.2.1 _ tb_298) (Nat.le_of_ble_eq_true rfl) (Nat.le_of_ble_eq_true rfl) (by decide) (by decide) dX0_letter_45 ?_
  refine va_mmin C0.1 C0.2.1 (C0.2.2.1.trans hl.1.symm) C0.2.2.2.1 (C0.2.2.2.2.1 _ tb_1209) (C0.2.2.2.2.1 _ tb_297) (C0.2.2.2.2.1 _ tb_94) (C0.2.2.2.2.1 _ tb_298) (Nat.le_of_ble_eq_true rfl) (Nat.le_of_ble_eq_true rfl) (by decide) (by decide) dX0_letter_48 ?_
  refine lv_istore_n C0.1 C0.2.1 dX0_letter_51 rfl hl (by decide) rfl (fun ls hl => ?_)
  refine lv_aload_n C0.1 C0.2.1 dX0_letter_52 rfl (lv_at hl 2 rfl) ?_
  refine g0_0 C0 hO i1 tb_1191 dX0_letter_53 ?_
  refine lv_aload_n C0.1 C0.2.1 dX0_letter_56 rfl (lv_at hl 2 rfl) ?_
  refine g0_1 C0 hO i1 tb_1192 dX0_letter_57 ?_
  refine lv_iadd C0.1 C0.2.1 dX0_letter_60 ?_
  refine lv_aload_n C0.1 C0.2.1 dX0_letter_61 rfl (lv_at hl 2 rfl) ?_
  refine g0_2 C0 hO i1 tb_1193 dX0_letter_62 ?_
  refine lv_iadd C0.1 C0.2.1 dX0_letter_65 ?_
  refine lv_aload_n C0.1 C0.2.1 dX0_letter_66 rfl (lv_at hl 2 rfl) ?_
  refine g0_3 C0 hO i1 tb_1194 dX0_letter_67 ?_
  refine lv_iadd C0.1 C0.2.1 dX0_letter_70 ?_
  refine lv_istore_n C0.1 C0.2.1 dX0_letter_71 rfl hl (by decide) rfl (fun ls hl => ?_)
  refine lv_iload_n C0.1 C0.2.1 dX0_letter_72 rfl (lv_at hl 2 rfl) ?_
  refine lv_iload_n C0.1 C0.2.1 dX0_letter_73 rfl (lv_at hl 1 rfl) ?_
  refine lv_iadd C0.1 C0.2.1 dX0_letter_74 ?_
  refine lv_istore C0.1 C0.2.1 dX0_letter_75 hl (by decide) rfl (fun ls hl => ?_)
  refine lv_iload_n C0.1 C0.2.1 dX0_letter_77 rfl (lv_at hl 3 rfl) ?_
  refine lv_iload_n C0.1 C0.2.1 dX0_letter_78 rfl (lv_at hl 1 rfl) ?_
  refine lv_iload_n C0.1 C0.2.1 dX0_letter_79 rfl (lv_at hl 3 rfl) ?_
  refine lv_isub C0.1 C0.2.1 dX0_letter_80 ?_
  refine lv_icmp_lt (tgt := 87) C0.1 C0.2.1 dX0_letter_81 (by decide) (fun c2 => ?_) (fun c2 => ?_)
  · have h := h.1 c2
    refine lv_iload C0.1 C0.2.1 dX0_letter_87 (lv_at hl 0 rfl) ?_
    refine lv_iload_n C0.1 C0.2.1 dX0_letter_89 rfl (lv_at hl 1 rfl) ?_
    refine lv_iload C0.1 C0.2.1 dX0_letter_90 (lv_at hl 0 rfl) ?_
    refine lv_isub C0.1 C0.2.1 dX0_letter_92 ?_
    refine lv_icmp_eq (tgt := 116) C0.1 C0.2.1 dX0_letter_93 (by decide) (fun c3 => ?_) (fun c3 => ?_)
    · have h := h.1 c3
      refine lv_bipush (v := 101) C0.1 C0.2.1 dX0_letter_116 (by decide) ?_
      exact e_Z C0 Y hO hS rfl h (Nat.le_refl _) (Nat.le_refl _) dX0_letter_118
    · have h := h.2 c3
      refine lv_iload C0.1 C0.2.1 dX0_letter_96 (lv_at hl 0 rfl) ?_
      refine lv_iload_n C0.1 C0.2.1 dX0_letter_98 rfl (lv_at hl 1 rfl) ?_
      refine lv_iload C0.1 C0.2.1 dX0_letter_99 (lv_at hl 0 rfl) ?_
      refine lv_isub C0.1 C0.2.1 dX0_letter_101 ?_
      refine lv_icmp_ge (tgt := 113) C0.1 C0.2.1 dX0_letter_102 (by decide) (fun c4 => ?_) (fun c4 => ?_)
      · have h := h.1 c4
        refine lv_bipush (v := 116) C0.1 C0.2.1 dX0_letter_113 (by decide) ?_
        exact e_Z C0 Y hO hS rfl h (Nat.le_refl _) (Nat.le_refl _) dX0_letter_115
      · have h := h.2 c4
        refine lv_aload_n C0.1 C0.2.1 dX0_letter_105 rfl (lv_at hl 4 rfl) ?_
        refine lv_iload_n C0.1 C0.2.1 dX0_letter_106 rfl (lv_at hl 2 rfl) ?_
        refine c_V C0 hO hS (mX0_letterOf h) i1 (by decide) rfl rfl tb_1210 tb_1212 tb_36 tb_101 tb_1213 hd_X0_letterOf rfl ⟨⟨by decide, by decide⟩, by decide, by decide⟩ hl.1 rfl (Nat.le_of_ble_eq_true rfl) dX0_letter_107 (kI (fun r6 S5 H locs h hO hS => ?_))
        refine lv_goto (tgt := 115) C0.1 C0.2.1 dX0_letter_110 (by decide) ?_
        exact e_Z C0 Y hO hS h.1 h.2 (Nat.le_refl _) (Nat.le_refl _) dX0_letter_115
  · have h := h.2 c2
    refine lv_bipush (v := 120) C0.1 C0.2.1 dX0_letter_84 (by decide) ?_
    exact e_Z C0 Y hO hS rfl h (Nat.le_refl _) (Nat.le_refl _) dX0_letter_86
def wX0_letter (S : Hp) (x0 : Nat) (Φ : Hp → Int32 → Prop) : Prop := wX0_letter_b0 x0 Φ S
set_option maxRecDepth 100000 in
theorem mX0_letter {l : Launch} {G : Gw} {S : Hp} {x0 : Nat} {Φ : Hp → Int32 → Prop} (h : wX0_letter S x0 Φ) : gM l yX0_letter cX0_letter 5 (some .char) rm_X0_letter [.ref x0] G S (PI Φ) := by
  unfold gM
  refine Met.ofW (cc := cX0_letter) (maxL := 5) (ret := (some .char)) (by decide) rfl ?_
  intro p e s m args below meth c s₁ B hml hv
  obtain ⟨rfl, hw⟩ := hv
  obtain ⟨C0, Y, hO⟩ := mx_of B hml hw
  have hS : va_S (Ab G.b) s.heap s.heap [] := va_S.rf
  have hl := lv_entry ([.ref x0]) (n := 5) (Nat.le_of_ble_eq_true rfl)
  rw [lg_entry_eq]
  generalize (lg_sl ([.ref x0]) ++ List.replicate (5 - (lg_sl ([.ref x0])).length) Slot.unset).toArray = ls at hl ⊢
  have hl : lv_has ls 5 [(0, .ref x0)] := hl
  exact bX0_letter_b0 C0 Y S _ _ _ h hO hS hl

def rm_X0_cosine : Room := { frames := 2, cells := 1, slots := 2, locals := 56 }
def wX0_cosine_b0 (x0 : Int64) (x2 : Int64) (x4 : Int64) (Φ : Hp → Option Nat → Prop) (S : Hp) : Prop := (((lg_cmp x4 0) ≤ 0 → Φ S none) ∧ (¬ ((lg_cmp x4 0) ≤ 0) → ((0 ≤ (lg_cmp x4 (x0 + x2)) → Φ S none) ∧ (¬ (0 ≤ (lg_cmp x4 (x0 + x2))) → ((0 < (lg_cmp x4 (if 0 < (x0 - x2) then (x0 - x2) else -(x0 - x2))) → ∀ a4 S5, a4 ∉ S.L → S5 = S.new a4 3 0 → wX3_init S5 a4 (((x0 * x0) + (x2 * x2)) - (x4 * x4)) ((2 * x0) * x2) (fun S6 => Φ S6 (some a4))) ∧ (¬ (0 < (lg_cmp x4 (if 0 < (x0 - x2) then (x0 - x2) else -(x0 - x2)))) → Φ S none))))))
set_option maxHeartbeats 4000000 in
set_option maxRecDepth 100000 in
theorem bX0_cosine_b0 {p : Program} {l : Launch} {e : Env} {s : State} {m : MethodId} {args : Array Value} {below : List Frame} {meth : Method} {c : Code} {G : Gw} {x0 : Int64} {x2 : Int64} {x4 : Int64} {Φ : Hp → Option Nat → Prop} (C0 : Mx p s m c cX0_cosine 6 args yX0_cosine.cls G) (Y : My meth (some (.object "Linkwright$Fraction")))  : ∀ (S : Hp) (H : Heap) (locs : List Loc) (ls : Array Slot) (cells slots : Nat), wX0_cosine_b0 x0 x2 x4 Φ S → Ok G S H → va_S (Ab G.b) s.heap H locs → lv_has ls 6 [(0, .long x0), (2, .long x2), (4, .long x4)] → cells + (1) ≤ 1 → slots + (2) ≤ 2 → W p l e rm_X0_cosine s m args below meth c H locs cells slots (MQ below (gQ G (PR Φ)) args s rm_X0_cosine.cells rm_X0_cosine.slots (Ab G.b)) (F0 m 0 ls []) := by
  intro S H locs ls cells slots h hO hS hl hcc hss
  unfold wX0_cosine_b0 at h
  refine lv_lload C0.1 C0.2.1 dX0_cosine_0 (lv_at hl 2 rfl) ?_
  refine lv_lconst (v := 0) C0.1 C0.2.1 dX0_cosine_2 (by decide) ?_
  refine W.lcmp C0.1 C0.2.1 dX0_cosine_3 ?_
  refine lv_if_le (tgt := 28) C0.1 C0.2.1 dX0_cosine_4 (by decide) (fun c1 => ?_) (fun c1 => ?_)
  · have h := h.1 c1
    refine lv_null C0.1 C0.2.1 dX0_cosine_28 ?_
    exact e_R (v := none) C0 Y (Or.inl ⟨_, rfl⟩) hO hS h (by show _ ≤ 1; omega) (by show _ ≤ 2; omega) dX0_cosine_29
  · have h := h.2 c1
    refine lv_lload C0.1 C0.2.1 dX0_cosine_7 (lv_at hl 2 rfl) ?_
    refine lv_lload_n C0.1 C0.2.1 dX0_cosine_9 rfl (lv_at hl 0 rfl) ?_
    refine lv_lload_n C0.1 C0.2.1 dX0_cosine_10 rfl (lv_at hl 1 rfl) ?_
    refine lv_ladd C0.1 C0.2.1 dX0_cosine_11 ?_
    refine W.lcmp C0.1 C0.2.1 dX0_cosine_12 ?_
    refine lv_if_ge (tgt := 28) C0.1 C0.2.1 dX0_cosine_13 (by decide) (fun c2 => ?_) (fun c2 => ?_)
    · have h := h.1 c2
      refine lv_null C0.1 C0.2.1 dX0_cosine_28 ?_
      exact e_R (v := none) C0 Y (Or.inl ⟨_, rfl⟩) hO hS h (by show _ ≤ 1; omega) (by show _ ≤ 2; omega) dX0_cosine_29
    · have h := h.2 c2
      refine lv_lload C0.1 C0.2.1 dX0_cosine_16 (lv_at hl 2 rfl) ?_
      refine lv_lload_n C0.1 C0.2.1 dX0_cosine_18 rfl (lv_at hl 0 rfl) ?_
      refine lv_lload_n C0.1 C0.2.1 dX0_cosine_19 rfl (lv_at hl 1 rfl) ?_
      refine lv_lsub C0.1 C0.2.1 dX0_cosine_20 ?_
      refine va_mabs_long C0.1 C0.2.1 (C0.2.2.1.trans hl.1.symm) C0.2.2.2.1 (C0.2.2.2.2.1 _ tb_1229) (C0.2.2.2.2.1 _ tb_817) (C0.2.2.2.2.1 _ tb_94) (C0.2.2.2.2.1 _ tb_818) (Nat.le_of_ble_eq_true rfl) (Nat.le_of_ble_eq_true rfl) (by show _ ≤ 1; omega) (by show _ ≤ 2; omega) dX0_cosine_21 ?_
      refine W.lcmp C0.1 C0.2.1 dX0_cosine_24 ?_
      refine lv_if_gt (tgt := 30) C0.1 C0.2.1 dX0_cosine_25 (by decide) (fun c3 => ?_) (fun c3 => ?_)
      · have h := h.1 c3
        refine n_3 C0 hO hS tb_1230 tb_430 tb_97 (by show _ ≤ 1; omega) (by show _ ≤ 2; omega) dX0_cosine_30 (fun a4 H hna4 hO hS => ?_)
        have h := h a4 _ hna4 rfl
        refine lv_dup C0.1 C0.2.1 dX0_cosine_33 rfl ?_
        refine lv_lload_n C0.1 C0.2.1 dX0_cosine_34 rfl (lv_at hl 0 rfl) ?_
        refine lv_lload_n C0.1 C0.2.1 dX0_cosine_35 rfl (lv_at hl 0 rfl) ?_
        refine lv_lmul C0.1 C0.2.1 dX0_cosine_36 ?_
        refine lv_lload_n C0.1 C0.2.1 dX0_cosine_37 rfl (lv_at hl 1 rfl) ?_
        refine lv_lload_n C0.1 C0.2.1 dX0_cosine_38 rfl (lv_at hl 1 rfl) ?_
        refine lv_lmul C0.1 C0.2.1 dX0_cosine_39 ?_
        refine lv_ladd C0.1 C0.2.1 dX0_cosine_40 ?_
        refine lv_lload C0.1 C0.2.1 dX0_cosine_41 (lv_at hl 2 rfl) ?_
        refine lv_lload C0.1 C0.2.1 dX0_cosine_43 (lv_at hl 2 rfl) ?_
        refine lv_lmul C0.1 C0.2.1 dX0_cosine_45 ?_
        refine lv_lsub C0.1 C0.2.1 dX0_cosine_46 ?_
        refine lv_ldc2 (v := 2) C0.1 C0.2.1 C0.2.2.2.1 (C0.2.2.2.2.1 _ tb_1231) dX0_cosine_47 ?_
        refine lv_lload_n C0.1 C0.2.1 dX0_cosine_50 rfl (lv_at hl 0 rfl) ?_
        refine lv_lmul C0.1 C0.2.1 dX0_cosine_51 ?_
        refine lv_lload_n C0.1 C0.2.1 dX0_cosine_52 rfl (lv_at hl 1 rfl) ?_
        refine lv_lmul C0.1 C0.2.1 dX0_cosine_53 ?_
        refine c_I C0 hO hS (mX3_init h) tb_1232 tb_432 tb_97 tb_433 rfl hd_X3_init rfl ⟨⟨by decide, by decide⟩, by show _ + 0 ≤ 1; omega, by show _ + 0 ≤ 2; omega⟩ hl.1 rfl (Nat.le_of_ble_eq_true rfl) dX0_cosine_54 (kV (fun S6 H locs h hO hS => ?_))
        change W _ _ _ _ _ _ _ _ _ _ _ _ (_ + 0) (_ + 0) _ _
        exact e_R (v := some a4) C0 Y (Or.inl ⟨_, rfl⟩) hO hS h (by show _ ≤ 1; omega) (by show _ ≤ 2; omega) dX0_cosine_57
      · have h := h.2 c3
        refine lv_null C0.1 C0.2.1 dX0_cosine_28 ?_
        exact e_R (v := none) C0 Y (Or.inl ⟨_, rfl⟩) hO hS h (by show _ ≤ 1; omega) (by show _ ≤ 2; omega) dX0_cosine_29
def wX0_cosine (S : Hp) (x0 : Int64) (x2 : Int64) (x4 : Int64) (Φ : Hp → Option Nat → Prop) : Prop := wX0_cosine_b0 x0 x2 x4 Φ S
set_option maxRecDepth 100000 in
theorem mX0_cosine {l : Launch} {G : Gw} {S : Hp} {x0 : Int64} {x2 : Int64} {x4 : Int64} {Φ : Hp → Option Nat → Prop} (h : wX0_cosine S x0 x2 x4 Φ) : gM l yX0_cosine cX0_cosine 6 (some (.object "Linkwright$Fraction")) rm_X0_cosine [.long x0, .long x2, .long x4] G S (PR Φ) := by
  unfold gM
  refine Met.ofW (cc := cX0_cosine) (maxL := 6) (ret := (some (.object "Linkwright$Fraction"))) (by decide) rfl ?_
  intro p e s m args below meth c s₁ B hml hv
  obtain ⟨rfl, hw⟩ := hv
  obtain ⟨C0, Y, hO⟩ := mx_of B hml hw
  have hS : va_S (Ab G.b) s.heap s.heap [] := va_S.rf
  have hl := lv_entry ([.long x0, .long x2, .long x4]) (n := 6) (Nat.le_of_ble_eq_true rfl)
  rw [lg_entry_eq]
  generalize (lg_sl ([.long x0, .long x2, .long x4]) ++ List.replicate (6 - (lg_sl ([.long x0, .long x2, .long x4])).length) Slot.unset).toArray = ls at hl ⊢
  have hl : lv_has ls 6 [(0, .long x0), (2, .long x2), (4, .long x4)] := hl
  exact bX0_cosine_b0 C0 Y S _ _ _ 0 0 h hO hS hl (by decide) (by decide)

def rm_X0_limit : Room := { frames := 3, cells := 1, slots := 2, locals := 81 }
def wX0_limit_b40 (x0 : Nat) (x1 : Int32) (Φ : Hp → Option Nat → Prop) (S : Hp) (z0 : Int64) (z1 : Int64) (z2 : Int64) : Prop := wX0_cosine S z0 z1 z2 (fun S1 r2 => Φ S1 r2)
set_option maxHeartbeats 4000000 in
set_option maxRecDepth 100000 in
theorem bX0_limit_b40 {p : Program} {l : Launch} {e : Env} {s : State} {m : MethodId} {args : Array Value} {below : List Frame} {meth : Method} {c : Code} {G : Gw} {x0 : Nat} {x1 : Int32} {Φ : Hp → Option Nat → Prop} (C0 : Mx p s m c cX0_limit 2 args yX0_limit.cls G) (Y : My meth (some (.object "Linkwright$Fraction")))  : ∀ (S : Hp) (z0 : Int64) (z1 : Int64) (z2 : Int64) (H : Heap) (locs : List Loc) (ls : Array Slot) (cells slots : Nat), wX0_limit_b40 x0 x1 Φ S z0 z1 z2 → Ok G S H → va_S (Ab G.b) s.heap H locs → lv_has ls 2 [(0, .ref x0), (1, .int x1)] → cells + (1) ≤ 1 → slots + (2) ≤ 2 → W p l e rm_X0_limit s m args below meth c H locs cells slots (MQ below (gQ G (PR Φ)) args s rm_X0_limit.cells rm_X0_limit.slots (Ab G.b)) (F0 m 40 ls [.long z2, .long z1, .long z0]) := by
  intro S z0 z1 z2 H locs ls cells slots h hO hS hl hcc hss
  unfold wX0_limit_b40 at h
  refine c_S C0 hO hS (mX0_cosine h) tb_1226 tb_1227 tb_101 tb_1228 hd_X0_cosine rfl ⟨⟨by decide, by decide⟩, by show _ + 1 ≤ 1; omega, by show _ + 2 ≤ 2; omega⟩ hl.1 rfl (Nat.le_of_ble_eq_true rfl) dX0_limit_40 (kR (fun r2 S1 H locs h hO hS => ?_))
  change W _ _ _ _ _ _ _ _ _ _ _ _ (_ + 1) (_ + 2) _ _
  exact e_R (v := r2) C0 Y (Or.inl ⟨_, rfl⟩) hO hS h (by show _ ≤ 1; omega) (by show _ ≤ 2; omega) dX0_limit_43
def wX0_limit_b0 (x0 : Nat) (x1 : Int32) (Φ : Hp → Option Nat → Prop) (S : Hp) : Prop := isA S x0 0 ∧ ((x1 = 0 → wX0_limit_b40 x0 x1 Φ S ((S.FI 2 x0).toInt64) ((S.FI 3 x0).toInt64) ((if 0 ≤ ((S.FI 0 x0) - (S.FI 1 x0)) then ((S.FI 0 x0) - (S.FI 1 x0)) else 0 - ((S.FI 0 x0) - (S.FI 1 x0))).toInt64)) ∧ (¬ (x1 = 0) → wX0_limit_b40 x0 x1 Φ S ((S.FI 2 x0).toInt64) ((S.FI 3 x0).toInt64) (((S.FI 0 x0) + (S.FI 1 x0)).toInt64)))
set_option maxHeartbeats 4000000 in
set_option maxRecDepth 100000 in
theorem bX0_limit_b0 {p : Program} {l : Launch} {e : Env} {s : State} {m : MethodId} {args : Array Value} {below : List Frame} {meth : Method} {c : Code} {G : Gw} {x0 : Nat} {x1 : Int32} {Φ : Hp → Option Nat → Prop} (C0 : Mx p s m c cX0_limit 2 args yX0_limit.cls G) (Y : My meth (some (.object "Linkwright$Fraction")))  : ∀ (S : Hp) (H : Heap) (locs : List Loc) (ls : Array Slot) (cells slots : Nat), wX0_limit_b0 x0 x1 Φ S → Ok G S H → va_S (Ab G.b) s.heap H locs → lv_has ls 2 [(0, .ref x0), (1, .int x1)] → cells + (1) ≤ 1 → slots + (2) ≤ 2 → W p l e rm_X0_limit s m args below meth c H locs cells slots (MQ below (gQ G (PR Φ)) args s rm_X0_limit.cells rm_X0_limit.slots (Ab G.b)) (F0 m 0 ls []) := by
  intro S H locs ls cells slots h hO hS hl hcc hss
  unfold wX0_limit_b0 at h
  refine lv_aload_n C0.1 C0.2.1 dX0_limit_0 rfl (lv_at hl 0 rfl) ?_
  obtain ⟨i1, h⟩ := h
  refine g0_2 C0 hO i1 tb_1193 dX0_limit_1 ?_
  refine lv_i2l C0.1 C0.2.1 dX0_limit_4 rfl ?_
  refine lv_aload_n C0.1 C0.2.1 dX0_limit_5 rfl (lv_at hl 0 rfl) ?_
  refine g0_3 C0 hO i1 tb_1194 dX0_limit_6 ?_
  refine lv_i2l C0.1 C0.2.1 dX0_limit_9 rfl ?_
  refine lv_iload_n C0.1 C0.2.1 dX0_limit_10 rfl (lv_at hl 1 rfl) ?_
  refine lv_if_eq (tgt := 27) C0.1 C0.2.1 dX0_limit_11 (by decide) (fun c2 => ?_) (fun c2 => ?_)
  · have h := h.1 c2
    refine lv_aload_n C0.1 C0.2.1 dX0_limit_27 rfl (lv_at hl 0 rfl) ?_
    refine g0_0 C0 hO i1 tb_1191 dX0_limit_28 ?_
    refine lv_aload_n C0.1 C0.2.1 dX0_limit_31 rfl (lv_at hl 0 rfl) ?_
    refine g0_1 C0 hO i1 tb_1192 dX0_limit_32 ?_
    refine lv_isub C0.1 C0.2.1 dX0_limit_35 ?_
    refine va_mabs C0.1 C0.2.1 (C0.2.2.1.trans hl.1.symm) C0.2.2.2.1 (C0.2.2.2.2.1 _ tb_1225) (C0.2.2.2.2.1 _ tb_303) (C0.2.2.2.2.1 _ tb_94) (C0.2.2.2.2.1 _ tb_304) (Nat.le_of_ble_eq_true rfl) (Nat.le_of_ble_eq_true rfl) (by show _ ≤ 1; omega) (by show _ ≤ 2; omega) dX0_limit_36 ?_
    refine lv_i2l C0.1 C0.2.1 dX0_limit_39 rfl ?_
    exact bX0_limit_b40 C0 Y _ _ _ _ _ _ _ _ _ h hO hS (lv_sub hl [0, 1] rfl) (by omega) (by omega)
  · have h := h.2 c2
    refine lv_aload_n C0.1 C0.2.1 dX0_limit_14 rfl (lv_at hl 0 rfl) ?_
    refine g0_0 C0 hO i1 tb_1191 dX0_limit_15 ?_
    refine lv_aload_n C0.1 C0.2.1 dX0_limit_18 rfl (lv_at hl 0 rfl) ?_
    refine g0_1 C0 hO i1 tb_1192 dX0_limit_19 ?_
    refine lv_iadd C0.1 C0.2.1 dX0_limit_22 ?_
    refine lv_i2l C0.1 C0.2.1 dX0_limit_23 rfl ?_
    refine lv_goto (tgt := 40) C0.1 C0.2.1 dX0_limit_24 (by decide) ?_
    exact bX0_limit_b40 C0 Y _ _ _ _ _ _ _ _ _ h hO hS (lv_sub hl [0, 1] rfl) (by omega) (by omega)
def wX0_limit (S : Hp) (x0 : Nat) (x1 : Int32) (Φ : Hp → Option Nat → Prop) : Prop := wX0_limit_b0 x0 x1 Φ S
set_option maxRecDepth 100000 in
theorem mX0_limit {l : Launch} {G : Gw} {S : Hp} {x0 : Nat} {x1 : Int32} {Φ : Hp → Option Nat → Prop} (h : wX0_limit S x0 x1 Φ) : gM l yX0_limit cX0_limit 2 (some (.object "Linkwright$Fraction")) rm_X0_limit [.ref x0, .int x1] G S (PR Φ) := by
  unfold gM
  refine Met.ofW (cc := cX0_limit) (maxL := 2) (ret := (some (.object "Linkwright$Fraction"))) (by decide) rfl ?_
  intro p e s m args below meth c s₁ B hml hv
  obtain ⟨rfl, hw⟩ := hv
  obtain ⟨C0, Y, hO⟩ := mx_of B hml hw
  have hS : va_S (Ab G.b) s.heap s.heap [] := va_S.rf
  have hl := lv_entry ([.ref x0, .int x1]) (n := 2) (Nat.le_of_ble_eq_true rfl)
  rw [lg_entry_eq]
  generalize (lg_sl ([.ref x0, .int x1]) ++ List.replicate (2 - (lg_sl ([.ref x0, .int x1])).length) Slot.unset).toArray = ls at hl ⊢
  have hl : lv_has ls 2 [(0, .ref x0), (1, .int x1)] := hl
  exact bX0_limit_b0 C0 Y S _ _ _ 0 0 h hO hS hl (by decide) (by decide)

def rm_X0_angle : Room := { frames := 3, cells := 1, slots := 2, locals := 81 }
def wX0_angle_b40 (x0 : Nat) (x1 : Int32) (Φ : Hp → Option Nat → Prop) (S : Hp) (z0 : Int64) (z1 : Int64) (z2 : Int64) : Prop := wX0_cosine S z0 z1 z2 (fun S1 r2 => Φ S1 r2)
set_option maxHeartbeats 4000000 in
set_option maxRecDepth 100000 in
theorem bX0_angle_b40 {p : Program} {l : Launch} {e : Env} {s : State} {m : MethodId} {args : Array Value} {below : List Frame} {meth : Method} {c : Code} {G : Gw} {x0 : Nat} {x1 : Int32} {Φ : Hp → Option Nat → Prop} (C0 : Mx p s m c cX0_angle 2 args yX0_angle.cls G) (Y : My meth (some (.object "Linkwright$Fraction")))  : ∀ (S : Hp) (z0 : Int64) (z1 : Int64) (z2 : Int64) (H : Heap) (locs : List Loc) (ls : Array Slot) (cells slots : Nat), wX0_angle_b40 x0 x1 Φ S z0 z1 z2 → Ok G S H → va_S (Ab G.b) s.heap H locs → lv_has ls 2 [(0, .ref x0), (1, .int x1)] → cells + (1) ≤ 1 → slots + (2) ≤ 2 → W p l e rm_X0_angle s m args below meth c H locs cells slots (MQ below (gQ G (PR Φ)) args s rm_X0_angle.cells rm_X0_angle.slots (Ab G.b)) (F0 m 40 ls [.long z2, .long z1, .long z0]) := by
  intro S z0 z1 z2 H locs ls cells slots h hO hS hl hcc hss
  unfold wX0_angle_b40 at h
  refine c_S C0 hO hS (mX0_cosine h) tb_1226 tb_1227 tb_101 tb_1228 hd_X0_cosine rfl ⟨⟨by decide, by decide⟩, by show _ + 1 ≤ 1; omega, by show _ + 2 ≤ 2; omega⟩ hl.1 rfl (Nat.le_of_ble_eq_true rfl) dX0_angle_40 (kR (fun r2 S1 H locs h hO hS => ?_))
  change W _ _ _ _ _ _ _ _ _ _ _ _ (_ + 1) (_ + 2) _ _
  exact e_R (v := r2) C0 Y (Or.inl ⟨_, rfl⟩) hO hS h (by show _ ≤ 1; omega) (by show _ ≤ 2; omega) dX0_angle_43
def wX0_angle_b0 (x0 : Nat) (x1 : Int32) (Φ : Hp → Option Nat → Prop) (S : Hp) : Prop := isA S x0 0 ∧ ((x1 = 0 → wX0_angle_b40 x0 x1 Φ S ((S.FI 1 x0).toInt64) ((S.FI 2 x0).toInt64) ((if 0 ≤ ((S.FI 0 x0) - (S.FI 3 x0)) then ((S.FI 0 x0) - (S.FI 3 x0)) else 0 - ((S.FI 0 x0) - (S.FI 3 x0))).toInt64)) ∧ (¬ (x1 = 0) → wX0_angle_b40 x0 x1 Φ S ((S.FI 1 x0).toInt64) ((S.FI 2 x0).toInt64) (((S.FI 0 x0) + (S.FI 3 x0)).toInt64)))
set_option maxHeartbeats 4000000 in
set_option maxRecDepth 100000 in
theorem bX0_angle_b0 {p : Program} {l : Launch} {e : Env} {s : State} {m : MethodId} {args : Array Value} {below : List Frame} {meth : Method} {c : Code} {G : Gw} {x0 : Nat} {x1 : Int32} {Φ : Hp → Option Nat → Prop} (C0 : Mx p s m c cX0_angle 2 args yX0_angle.cls G) (Y : My meth (some (.object "Linkwright$Fraction")))  : ∀ (S : Hp) (H : Heap) (locs : List Loc) (ls : Array Slot) (cells slots : Nat), wX0_angle_b0 x0 x1 Φ S → Ok G S H → va_S (Ab G.b) s.heap H locs → lv_has ls 2 [(0, .ref x0), (1, .int x1)] → cells + (1) ≤ 1 → slots + (2) ≤ 2 → W p l e rm_X0_angle s m args below meth c H locs cells slots (MQ below (gQ G (PR Φ)) args s rm_X0_angle.cells rm_X0_angle.slots (Ab G.b)) (F0 m 0 ls []) := by
  intro S H locs ls cells slots h hO hS hl hcc hss
  unfold wX0_angle_b0 at h
  refine lv_aload_n C0.1 C0.2.1 dX0_angle_0 rfl (lv_at hl 0 rfl) ?_
  obtain ⟨i1, h⟩ := h
  refine g0_1 C0 hO i1 tb_1192 dX0_angle_1 ?_
  refine lv_i2l C0.1 C0.2.1 dX0_angle_4 rfl ?_
  refine lv_aload_n C0.1 C0.2.1 dX0_angle_5 rfl (lv_at hl 0 rfl) ?_
  refine g0_2 C0 hO i1 tb_1193 dX0_angle_6 ?_
  refine lv_i2l C0.1 C0.2.1 dX0_angle_9 rfl ?_
  refine lv_iload_n C0.1 C0.2.1 dX0_angle_10 rfl (lv_at hl 1 rfl) ?_
  refine lv_if_eq (tgt := 27) C0.1 C0.2.1 dX0_angle_11 (by decide) (fun c2 => ?_) (fun c2 => ?_)
  · have h := h.1 c2
    refine lv_aload_n C0.1 C0.2.1 dX0_angle_27 rfl (lv_at hl 0 rfl) ?_
    refine g0_0 C0 hO i1 tb_1191 dX0_angle_28 ?_
    refine lv_aload_n C0.1 C0.2.1 dX0_angle_31 rfl (lv_at hl 0 rfl) ?_
    refine g0_3 C0 hO i1 tb_1194 dX0_angle_32 ?_
    refine lv_isub C0.1 C0.2.1 dX0_angle_35 ?_
    refine va_mabs C0.1 C0.2.1 (C0.2.2.1.trans hl.1.symm) C0.2.2.2.1 (C0.2.2.2.2.1 _ tb_1225) (C0.2.2.2.2.1 _ tb_303) (C0.2.2.2.2.1 _ tb_94) (C0.2.2.2.2.1 _ tb_304) (Nat.le_of_ble_eq_true rfl) (Nat.le_of_ble_eq_true rfl) (by show _ ≤ 1; omega) (by show _ ≤ 2; omega) dX0_angle_36 ?_
    refine lv_i2l C0.1 C0.2.1 dX0_angle_39 rfl ?_
    exact bX0_angle_b40 C0 Y _ _ _ _ _ _ _ _ _ h hO hS (lv_sub hl [0, 1] rfl) (by omega) (by omega)
  · have h := h.2 c2
    refine lv_aload_n C0.1 C0.2.1 dX0_angle_14 rfl (lv_at hl 0 rfl) ?_
    refine g0_0 C0 hO i1 tb_1191 dX0_angle_15 ?_
    refine lv_aload_n C0.1 C0.2.1 dX0_angle_18 rfl (lv_at hl 0 rfl) ?_
    refine g0_3 C0 hO i1 tb_1194 dX0_angle_19 ?_
    refine lv_iadd C0.1 C0.2.1 dX0_angle_22 ?_
    refine lv_i2l C0.1 C0.2.1 dX0_angle_23 rfl ?_
    refine lv_goto (tgt := 40) C0.1 C0.2.1 dX0_angle_24 (by decide) ?_
    exact bX0_angle_b40 C0 Y _ _ _ _ _ _ _ _ _ h hO hS (lv_sub hl [0, 1] rfl) (by omega) (by omega)
def wX0_angle (S : Hp) (x0 : Nat) (x1 : Int32) (Φ : Hp → Option Nat → Prop) : Prop := wX0_angle_b0 x0 x1 Φ S
set_option maxRecDepth 100000 in
theorem mX0_angle {l : Launch} {G : Gw} {S : Hp} {x0 : Nat} {x1 : Int32} {Φ : Hp → Option Nat → Prop} (h : wX0_angle S x0 x1 Φ) : gM l yX0_angle cX0_angle 2 (some (.object "Linkwright$Fraction")) rm_X0_angle [.ref x0, .int x1] G S (PR Φ) := by
  unfold gM
  refine Met.ofW (cc := cX0_angle) (maxL := 2) (ret := (some (.object "Linkwright$Fraction"))) (by decide) rfl ?_
  intro p e s m args below meth c s₁ B hml hv
  obtain ⟨rfl, hw⟩ := hv
  obtain ⟨C0, Y, hO⟩ := mx_of B hml hw
  have hS : va_S (Ab G.b) s.heap s.heap [] := va_S.rf
  have hl := lv_entry ([.ref x0, .int x1]) (n := 2) (Nat.le_of_ble_eq_true rfl)
  rw [lg_entry_eq]
  generalize (lg_sl ([.ref x0, .int x1]) ++ List.replicate (2 - (lg_sl ([.ref x0, .int x1])).length) Slot.unset).toArray = ls at hl ⊢
  have hl : lv_has ls 2 [(0, .ref x0), (1, .int x1)] := hl
  exact bX0_angle_b0 C0 Y S _ _ _ 0 0 h hO hS hl (by decide) (by decide)

def rm_X1_init : Room := { frames := 1, cells := 4, slots := 96, locals := 23 }
def wX1_init_b0 (x0 : Nat) (x1 : Int32) (Φ : Hp → Prop) (S : Hp) : Prop := ∀ a1 S2, a1 ∉ S.L → S2 = S.new a1 21 24 → isA S2 x0 1 ∧ ∀ S4, S4 = S2.setFR 65 x0 (some a1) → ∀ a5 S6, a5 ∉ S4.L → S6 = S4.new a5 21 24 → ∀ S7, S7 = S6.setFR 66 x0 (some a5) → ∀ a8 S9, a8 ∉ S7.L → S9 = S7.new a8 20 24 → ∀ S10, S10 = S9.setFR 67 x0 (some a8) → ∀ a11 S12, a11 ∉ S10.L → S12 = S10.new a11 21 24 → ∀ S13, S13 = S12.setFR 68 x0 (some a11) → ∀ S14, S14 = S13.setFI 64 x0 x1 → ∃ a15, S14.FR 68 x0 = some a15 ∧ wJ7_fill_53178 S14 a15 (-1) (fun S16 => Φ S16)
set_option maxHeartbeats 4000000 in
set_option maxRecDepth 100000 in
theorem bX1_init_b0 {p : Program} {l : Launch} {e : Env} {s : State} {m : MethodId} {args : Array Value} {below : List Frame} {meth : Method} {c : Code} {G : Gw} {x0 : Nat} {x1 : Int32} {Φ : Hp → Prop} (C0 : Mx p s m c cX1_init 2 args yX1_init.cls G) (Y : My meth none) (hin9 : meth.name = "<init>")  : ∀ (S : Hp) (H : Heap) (locs : List Loc) (ls : Array Slot) (cells slots : Nat), wX1_init_b0 x0 x1 Φ S → Ok G S H → va_S (Ab G.b) s.heap H locs → lv_has ls 2 [(0, .ref x0), (1, .int x1)] → cells + (4) ≤ 4 → slots + (96) ≤ 96 → W p l e rm_X1_init s m args below meth c H locs cells slots (MQ below (gQ G (PV Φ)) args s rm_X1_init.cells rm_X1_init.slots (Ab G.b)) (F0 m 0 ls []) := by
  intro S H locs ls cells slots h hO hS hl hcc hss
  unfold wX1_init_b0 at h
  refine lv_aload_n C0.1 C0.2.1 dX1_init_0 rfl (lv_at hl 0 rfl) ?_
  refine W.objInit C0.1 C0.2.1 C0.2.2.2.1 (C0.2.2.2.2.1 _ tb_983) (C0.2.2.2.2.1 _ tb_109) (C0.2.2.2.2.1 _ tb_110) rfl (hl.1.trans C0.2.2.1.symm) rfl dX1_init_1 (Nat.le_of_ble_eq_true rfl) (Nat.le_of_ble_eq_true rfl) ?_
  refine W.eq (g2 := F0 _ 4 _ _) rfl ?_
  refine lv_aload_n C0.1 C0.2.1 dX1_init_4 rfl (lv_at hl 0 rfl) ?_
  refine lv_bipush (v := 24) C0.1 C0.2.1 dX1_init_5 (by decide) ?_
  refine n_21k (k := 24) C0 hO hS (by decide) (by show _ ≤ 4; omega) (by show _ ≤ 96; omega) dX1_init_7 (fun a1 H hna1 hO hS => ?_)
  have h := h a1 _ hna1 rfl
  obtain ⟨i3, h⟩ := h
  refine p1_1 C0 hO hS i3 hin9 rfl tb_987 dX1_init_9 (fun H locs hO hS => ?_)
  have h := h _ rfl
  refine lv_aload_n C0.1 C0.2.1 dX1_init_12 rfl (lv_at hl 0 rfl) ?_
  refine lv_bipush (v := 24) C0.1 C0.2.1 dX1_init_13 (by decide) ?_
  refine n_21k (k := 24) C0 hO hS (by decide) (by show _ ≤ 4; omega) (by show _ ≤ 96; omega) dX1_init_15 (fun a5 H hna5 hO hS => ?_)
  have h := h a5 _ hna5 rfl
  refine p1_2 C0 hO hS (new_old (n := 24) hna5 (sA_FR i3)) hin9 rfl tb_988 dX1_init_17 (fun H locs hO hS => ?_)
  have h := h _ rfl
  refine lv_aload_n C0.1 C0.2.1 dX1_init_20 rfl (lv_at hl 0 rfl) ?_
  refine lv_bipush (v := 24) C0.1 C0.2.1 dX1_init_21 (by decide) ?_
  refine n_20k (k := 24) C0 hO hS (by decide) (by show _ ≤ 4; omega) (by show _ ≤ 96; omega) dX1_init_23 (fun a8 H hna8 hO hS => ?_)
  have h := h a8 _ hna8 rfl
  refine p1_3 C0 hO hS (new_old (n := 24) hna8 (sA_FR (new_old (n := 24) hna5 (sA_FR i3)))) hin9 rfl tb_989 dX1_init_25 (fun H locs hO hS => ?_)
  have h := h _ rfl
  refine lv_aload_n C0.1 C0.2.1 dX1_init_28 rfl (lv_at hl 0 rfl) ?_
  refine lv_bipush (v := 24) C0.1 C0.2.1 dX1_init_29 (by decide) ?_
  refine n_21k (k := 24) C0 hO hS (by decide) (by show _ ≤ 4; omega) (by show _ ≤ 96; omega) dX1_init_31 (fun a11 H hna11 hO hS => ?_)
  have h := h a11 _ hna11 rfl
  refine p1_4 C0 hO hS (new_old (n := 24) hna11 (sA_FR (new_old (n := 24) hna8 (sA_FR (new_old (n := 24) hna5 (sA_FR i3)))))) hin9 rfl tb_990 dX1_init_33 (fun H locs hO hS => ?_)
  have h := h _ rfl
  refine lv_aload_n C0.1 C0.2.1 dX1_init_36 rfl (lv_at hl 0 rfl) ?_
  refine lv_iload_n C0.1 C0.2.1 dX1_init_37 rfl (lv_at hl 1 rfl) ?_
  refine p1_0 C0 hO hS (sA_FR (new_old (n := 24) hna11 (sA_FR (new_old (n := 24) hna8 (sA_FR (new_old (n := 24) hna5 (sA_FR i3))))))) hin9 rfl tb_985 dX1_init_38 (fun H locs hO hS => ?_)
  have h := h _ rfl
  refine lv_aload_n C0.1 C0.2.1 dX1_init_41 rfl (lv_at hl 0 rfl) ?_
  obtain ⟨a15, ea15, h⟩ := h
  refine g1_4 C0 hO (sA_FI (sA_FR (new_old (n := 24) hna11 (sA_FR (new_old (n := 24) hna8 (sA_FR (new_old (n := 24) hna5 (sA_FR i3)))))))) ea15 tb_990 dX1_init_42 ?_
  refine lv_iconst (v := (-1)) C0.1 C0.2.1 dX1_init_45 (by decide) ?_
  refine c_S C0 hO hS (mJ7_fill_53178 h) tb_984 tb_184 tb_79 tb_185 hd_J7_fill_53178 rfl ⟨⟨by decide, by decide⟩, by show _ + 0 ≤ 4; omega, by show _ + 0 ≤ 96; omega⟩ hl.1 rfl (Nat.le_of_ble_eq_true rfl) dX1_init_46 (kV (fun S16 H locs h hO hS => ?_))
  change W _ _ _ _ _ _ _ _ _ _ _ _ (_ + 0) (_ + 0) _ _
  exact e_V C0 Y hO hS h (by show _ ≤ 4; omega) (by show _ ≤ 96; omega) dX1_init_49
def wX1_init (S : Hp) (x0 : Nat) (x1 : Int32) (Φ : Hp → Prop) : Prop := wX1_init_b0 x0 x1 Φ S
set_option maxRecDepth 100000 in
theorem mX1_init {l : Launch} {G : Gw} {S : Hp} {x0 : Nat} {x1 : Int32} {Φ : Hp → Prop} (h : wX1_init S x0 x1 Φ) : gM l yX1_init cX1_init 2 none rm_X1_init [.ref x0, .int x1] G S (PV Φ) := by
  unfold gM
  refine Met.ofW (cc := cX1_init) (maxL := 2) (ret := none) (by decide) rfl ?_
  intro p e s m args below meth c s₁ B hml hv
  obtain ⟨rfl, hw⟩ := hv
  obtain ⟨C0, Y, hO⟩ := mx_of B hml hw
  have hS : va_S (Ab G.b) s.heap s.heap [] := va_S.rf
  have hin9 : meth.name = "<init>" := (name_of_methodNamed B.named B.method).1
  have hl := lv_entry ([.ref x0, .int x1]) (n := 2) (Nat.le_of_ble_eq_true rfl)
  rw [lg_entry_eq]
  generalize (lg_sl ([.ref x0, .int x1]) ++ List.replicate (2 - (lg_sl ([.ref x0, .int x1])).length) Slot.unset).toArray = ls at hl ⊢
  have hl : lv_has ls 2 [(0, .ref x0), (1, .int x1)] := hl
  exact bX1_init_b0 C0 Y hin9 S _ _ _ 0 0 h hO hS hl (by decide) (by decide)

def rm_X1_isWhole : Room := { frames := 0, cells := 0, slots := 0, locals := 0 }
def wX1_isWhole_b0 (x0 : Nat) (Φ : Hp → Int32 → Prop) (S : Hp) : Prop := isA S x0 1 ∧ ((¬ (S.FI 70 x0) = 24 → Φ S 0) ∧ ((S.FI 70 x0) = 24 → Φ S 1))
set_option maxHeartbeats 4000000 in
set_option maxRecDepth 100000 in
theorem bX1_isWhole_b0 {p : Program} {l : Launch} {e : Env} {s : State} {m : MethodId} {args : Array Value} {below : List Frame} {meth : Method} {c : Code} {G : Gw} {x0 : Nat} {Φ : Hp → Int32 → Prop} (C0 : Mx p s m c cX1_isWhole 1 args yX1_isWhole.cls G) (Y : My meth (some .boolean))  : ∀ (S : Hp) (H : Heap) (locs : List Loc) (ls : Array Slot), wX1_isWhole_b0 x0 Φ S → Ok G S H → va_S (Ab G.b) s.heap H locs → lv_has ls 1 [(0, .ref x0)] → W p l e rm_X1_isWhole s m args below meth c H locs 0 0 (MQ below (gQ G (PI Φ)) args s rm_X1_isWhole.cells rm_X1_isWhole.slots (Ab G.b)) (F0 m 0 ls []) := by
  intro S H locs ls h hO hS hl
  unfold wX1_isWhole_b0 at h
  refine lv_aload_n C0.1 C0.2.1 dX1_isWhole_0 rfl (lv_at hl 0 rfl) ?_
  obtain ⟨i1, h⟩ := h
  refine g1_6 C0 hO i1 tb_994 dX1_isWhole_1 ?_
  refine lv_bipush (v := 24) C0.1 C0.2.1 dX1_isWhole_4 (by decide) ?_
  refine lv_icmp_ne (tgt := 13) C0.1 C0.2.1 dX1_isWhole_6 (by decide) (fun c2 => ?_) (fun c2 => ?_)
  · have h := h.1 c2
    refine lv_iconst (v := 0) C0.1 C0.2.1 dX1_isWhole_13 (by decide) ?_
    exact e_Z C0 Y hO hS rfl h (Nat.le_refl _) (Nat.le_refl _) dX1_isWhole_14
  · have h := h.2 c2
    refine lv_iconst (v := 1) C0.1 C0.2.1 dX1_isWhole_9 (by decide) ?_
    refine lv_goto (tgt := 14) C0.1 C0.2.1 dX1_isWhole_10 (by decide) ?_
    exact e_Z C0 Y hO hS rfl h (Nat.le_refl _) (Nat.le_refl _) dX1_isWhole_14
def wX1_isWhole (S : Hp) (x0 : Nat) (Φ : Hp → Int32 → Prop) : Prop := wX1_isWhole_b0 x0 Φ S
set_option maxRecDepth 100000 in
theorem mX1_isWhole {l : Launch} {G : Gw} {S : Hp} {x0 : Nat} {Φ : Hp → Int32 → Prop} (h : wX1_isWhole S x0 Φ) : gM l yX1_isWhole cX1_isWhole 1 (some .boolean) rm_X1_isWhole [.ref x0] G S (PI Φ) := by
  unfold gM
  refine Met.ofW (cc := cX1_isWhole) (maxL := 1) (ret := (some .boolean)) (by decide) rfl ?_
  intro p e s m args below meth c s₁ B hml hv
  obtain ⟨rfl, hw⟩ := hv
  obtain ⟨C0, Y, hO⟩ := mx_of B hml hw
  have hS : va_S (Ab G.b) s.heap s.heap [] := va_S.rf
  have hl := lv_entry ([.ref x0]) (n := 1) (Nat.le_of_ble_eq_true rfl)
  rw [lg_entry_eq]
  generalize (lg_sl ([.ref x0]) ++ List.replicate (1 - (lg_sl ([.ref x0])).length) Slot.unset).toArray = ls at hl ⊢
  have hl : lv_has ls 1 [(0, .ref x0)] := hl
  exact bX1_isWhole_b0 C0 Y S _ _ _ h hO hS hl

def rm_X1_empty : Room := { frames := 0, cells := 0, slots := 0, locals := 0 }
def wX1_empty_b0 (x0 : Nat) (Φ : Hp → Prop) (S : Hp) : Prop := isA S x0 1 ∧ ∀ S2, S2 = S.setFI 69 x0 0 → ∀ S3, S3 = S2.setFI 70 x0 0 → Φ S3
set_option maxHeartbeats 4000000 in
set_option maxRecDepth 100000 in
theorem bX1_empty_b0 {p : Program} {l : Launch} {e : Env} {s : State} {m : MethodId} {args : Array Value} {below : List Frame} {meth : Method} {c : Code} {G : Gw} {x0 : Nat} {Φ : Hp → Prop} (C0 : Mx p s m c cX1_empty 1 args yX1_empty.cls G) (Y : My meth none)  : ∀ (S : Hp) (H : Heap) (locs : List Loc) (ls : Array Slot), wX1_empty_b0 x0 Φ S → Ok G S H → va_S (Ab G.b) s.heap H locs → lv_has ls 1 [(0, .ref x0)] → W p l e rm_X1_empty s m args below meth c H locs 0 0 (MQ below (gQ G (PV Φ)) args s rm_X1_empty.cells rm_X1_empty.slots (Ab G.b)) (F0 m 0 ls []) := by
  intro S H locs ls h hO hS hl
  unfold wX1_empty_b0 at h
  refine lv_aload_n C0.1 C0.2.1 dX1_empty_0 rfl (lv_at hl 0 rfl) ?_
  refine lv_iconst (v := 0) C0.1 C0.2.1 dX1_empty_1 (by decide) ?_
  obtain ⟨i1, h⟩ := h
  refine p1_5 C0 hO hS i1 tb_992 dX1_empty_2 (fun H locs hO hS => ?_)
  have h := h _ rfl
  refine lv_aload_n C0.1 C0.2.1 dX1_empty_5 rfl (lv_at hl 0 rfl) ?_
  refine lv_iconst (v := 0) C0.1 C0.2.1 dX1_empty_6 (by decide) ?_
  refine p1_6 C0 hO hS (sA_FI i1) tb_994 dX1_empty_7 (fun H locs hO hS => ?_)
  have h := h _ rfl
  exact e_V C0 Y hO hS h (Nat.le_refl _) (Nat.le_refl _) dX1_empty_10
def wX1_empty (S : Hp) (x0 : Nat) (Φ : Hp → Prop) : Prop := wX1_empty_b0 x0 Φ S
set_option maxRecDepth 100000 in
theorem mX1_empty {l : Launch} {G : Gw} {S : Hp} {x0 : Nat} {Φ : Hp → Prop} (h : wX1_empty S x0 Φ) : gM l yX1_empty cX1_empty 1 none rm_X1_empty [.ref x0] G S (PV Φ) := by
  unfold gM
  refine Met.ofW (cc := cX1_empty) (maxL := 1) (ret := none) (by decide) rfl ?_
  intro p e s m args below meth c s₁ B hml hv
  obtain ⟨rfl, hw⟩ := hv
  obtain ⟨C0, Y, hO⟩ := mx_of B hml hw
  have hS : va_S (Ab G.b) s.heap s.heap [] := va_S.rf
  have hl := lv_entry ([.ref x0]) (n := 1) (Nat.le_of_ble_eq_true rfl)
  rw [lg_entry_eq]
  generalize (lg_sl ([.ref x0]) ++ List.replicate (1 - (lg_sl ([.ref x0])).length) Slot.unset).toArray = ls at hl ⊢
  have hl : lv_has ls 1 [(0, .ref x0)] := hl
  exact bX1_empty_b0 C0 Y S _ _ _ h hO hS hl

def rm_X1_append : Room := { frames := 0, cells := 0, slots := 0, locals := 0 }
def wX1_append_b0 (x0 : Nat) (x1 : Int32) (x2 : Int32) (x3 : Int32) (Φ : Hp → Prop) (S : Hp) : Prop := isA S x0 1 ∧ ((24 ≤ (S.FI 69 x0) → Φ S) ∧ (¬ (24 ≤ (S.FI 69 x0)) → ∃ a3, S.FR 65 x0 = some a3 ∧ isA S a3 21 ∧ vp_in (S.FI 69 x0) (S.N a3) ∧ ∀ S6, S6 = S.setAI a3 ((S.FI 69 x0).toNatClampNeg) x1 → ∃ a7, S6.FR 66 x0 = some a7 ∧ isA S6 a7 21 ∧ vp_in (S6.FI 69 x0) (S6.N a7) ∧ ∀ S10, S10 = S6.setAI a7 ((S6.FI 69 x0).toNatClampNeg) x2 → ∃ a11, S10.FR 67 x0 = some a11 ∧ isA S10 a11 20 ∧ vp_in (S10.FI 69 x0) (S10.N a11) ∧ nc x3 ∧ ∀ S15, S15 = S10.setAI a11 ((S10.FI 69 x0).toNatClampNeg) x3 → ∀ S16, S16 = S15.setFI 69 x0 ((S15.FI 69 x0) + 1) → ∀ S17, S17 = S16.setFI 70 x0 ((S16.FI 70 x0) + x1) → Φ S17))
set_option maxHeartbeats 4000000 in
set_option maxRecDepth 100000 in
theorem bX1_append_b0 {p : Program} {l : Launch} {e : Env} {s : State} {m : MethodId} {args : Array Value} {below : List Frame} {meth : Method} {c : Code} {G : Gw} {x0 : Nat} {x1 : Int32} {x2 : Int32} {x3 : Int32} {Φ : Hp → Prop} (C0 : Mx p s m c cX1_append 4 args yX1_append.cls G) (Y : My meth none)  : ∀ (S : Hp) (H : Heap) (locs : List Loc) (ls : Array Slot), wX1_append_b0 x0 x1 x2 x3 Φ S → Ok G S H → va_S (Ab G.b) s.heap H locs → lv_has ls 4 [(0, .ref x0), (1, .int x1), (2, .int x2), (3, .int x3)] → W p l e rm_X1_append s m args below meth c H locs 0 0 (MQ below (gQ G (PV Φ)) args s rm_X1_append.cells rm_X1_append.slots (Ab G.b)) (F0 m 0 ls []) := by
  intro S H locs ls h hO hS hl
  unfold wX1_append_b0 at h
  refine lv_aload_n C0.1 C0.2.1 dX1_append_0 rfl (lv_at hl 0 rfl) ?_
  obtain ⟨i1, h⟩ := h
  refine g1_5 C0 hO i1 tb_992 dX1_append_1 ?_
  refine lv_bipush (v := 24) C0.1 C0.2.1 dX1_append_4 (by decide) ?_
  refine lv_icmp_ge (tgt := 59) C0.1 C0.2.1 dX1_append_6 (by decide) (fun c2 => ?_) (fun c2 => ?_)
  · have h := h.1 c2
    exact e_V C0 Y hO hS h (Nat.le_refl _) (Nat.le_refl _) dX1_append_59
  · have h := h.2 c2
    refine lv_aload_n C0.1 C0.2.1 dX1_append_9 rfl (lv_at hl 0 rfl) ?_
    obtain ⟨a3, ea3, h⟩ := h
    refine g1_1 C0 hO i1 ea3 tb_987 dX1_append_10 ?_
    refine lv_aload_n C0.1 C0.2.1 dX1_append_13 rfl (lv_at hl 0 rfl) ?_
    refine g1_5 C0 hO i1 tb_992 dX1_append_14 ?_
    refine lv_iload_n C0.1 C0.2.1 dX1_append_17 rfl (lv_at hl 1 rfl) ?_
    obtain ⟨i4, h⟩ := h
    obtain ⟨e5, h⟩ := h
    refine r_iast C0 hO hS i4 e5 dX1_append_18 (fun H locs hO hS => ?_)
    have h := h _ rfl
    refine lv_aload_n C0.1 C0.2.1 dX1_append_19 rfl (lv_at hl 0 rfl) ?_
    obtain ⟨a7, ea7, h⟩ := h
    refine g1_2 C0 hO (sA_AI i1) ea7 tb_988 dX1_append_20 ?_
    refine lv_aload_n C0.1 C0.2.1 dX1_append_23 rfl (lv_at hl 0 rfl) ?_
    refine g1_5 C0 hO (sA_AI i1) tb_992 dX1_append_24 ?_
    refine lv_iload_n C0.1 C0.2.1 dX1_append_27 rfl (lv_at hl 2 rfl) ?_
    obtain ⟨i8, h⟩ := h
    obtain ⟨e9, h⟩ := h
    refine r_iast C0 hO hS i8 e9 dX1_append_28 (fun H locs hO hS => ?_)
    have h := h _ rfl
    refine lv_aload_n C0.1 C0.2.1 dX1_append_29 rfl (lv_at hl 0 rfl) ?_
    obtain ⟨a11, ea11, h⟩ := h
    refine g1_3 C0 hO (sA_AI (sA_AI i1)) ea11 tb_989 dX1_append_30 ?_
    refine lv_aload_n C0.1 C0.2.1 dX1_append_33 rfl (lv_at hl 0 rfl) ?_
    refine g1_5 C0 hO (sA_AI (sA_AI i1)) tb_992 dX1_append_34 ?_
    refine lv_iload_n C0.1 C0.2.1 dX1_append_37 rfl (lv_at hl 3 rfl) ?_
    obtain ⟨i12, h⟩ := h
    obtain ⟨e13, h⟩ := h
    obtain ⟨e14, h⟩ := h
    refine r_cast C0 hO hS i12 e13 e14 dX1_append_38 (fun H locs hO hS => ?_)
    have h := h _ rfl
    refine lv_aload_n C0.1 C0.2.1 dX1_append_39 rfl (lv_at hl 0 rfl) ?_
    refine lv_dup C0.1 C0.2.1 dX1_append_40 rfl ?_
    refine g1_5 C0 hO (sA_AI (sA_AI (sA_AI i1))) tb_992 dX1_append_41 ?_
    refine lv_iconst (v := 1) C0.1 C0.2.1 dX1_append_44 (by decide) ?_
    refine lv_iadd C0.1 C0.2.1 dX1_append_45 ?_
    refine p1_5 C0 hO hS (sA_AI (sA_AI (sA_AI i1))) tb_992 dX1_append_46 (fun H locs hO hS => ?_)
    have h := h _ rfl
    refine lv_aload_n C0.1 C0.2.1 dX1_append_49 rfl (lv_at hl 0 rfl) ?_
    refine lv_dup C0.1 C0.2.1 dX1_append_50 rfl ?_
    refine g1_6 C0 hO (sA_FI (sA_AI (sA_AI (sA_AI i1)))) tb_994 dX1_append_51 ?_
    refine lv_iload_n C0.1 C0.2.1 dX1_append_54 rfl (lv_at hl 1 rfl) ?_
    refine lv_iadd C0.1 C0.2.1 dX1_append_55 ?_
    refine p1_6 C0 hO hS (sA_FI (sA_AI (sA_AI (sA_AI i1)))) tb_994 dX1_append_56 (fun H locs hO hS => ?_)
    have h := h _ rfl
    exact e_V C0 Y hO hS h (Nat.le_refl _) (Nat.le_refl _) dX1_append_59
def wX1_append (S : Hp) (x0 : Nat) (x1 : Int32) (x2 : Int32) (x3 : Int32) (Φ : Hp → Prop) : Prop := wX1_append_b0 x0 x1 x2 x3 Φ S
set_option maxRecDepth 100000 in
theorem mX1_append {l : Launch} {G : Gw} {S : Hp} {x0 : Nat} {x1 : Int32} {x2 : Int32} {x3 : Int32} {Φ : Hp → Prop} (h : wX1_append S x0 x1 x2 x3 Φ) : gM l yX1_append cX1_append 4 none rm_X1_append [.ref x0, .int x1, .int x2, .int x3] G S (PV Φ) := by
  unfold gM
  refine Met.ofW (cc := cX1_append) (maxL := 4) (ret := none) (by decide) rfl ?_
  intro p e s m args below meth c s₁ B hml hv
  obtain ⟨rfl, hw⟩ := hv
  obtain ⟨C0, Y, hO⟩ := mx_of B hml hw
  have hS : va_S (Ab G.b) s.heap s.heap [] := va_S.rf
  have hl := lv_entry ([.ref x0, .int x1, .int x2, .int x3]) (n := 4) (Nat.le_of_ble_eq_true rfl)
  rw [lg_entry_eq]
  generalize (lg_sl ([.ref x0, .int x1, .int x2, .int x3]) ++ List.replicate (4 - (lg_sl ([.ref x0, .int x1, .int x2, .int x3])).length) Slot.unset).toArray = ls at hl ⊢
  have hl : lv_has ls 4 [(0, .ref x0), (1, .int x1), (2, .int x2), (3, .int x3)] := hl
  exact bX1_append_b0 C0 Y S _ _ _ h hO hS hl

def rm_X1_startOf : Room := { frames := 0, cells := 0, slots := 0, locals := 0 }
def wX1_startOf_b16 (x0 : Nat) (x1 : Int32) (Φ : Hp → Int32 → Prop) (S : Hp) (z0 : Int32) : Prop := ((z0 < 0 → Φ S 0) ∧ (¬ (z0 < 0) → ((24 ≤ z0 → Φ S 0) ∧ (¬ (24 ≤ z0) → isA S x0 1 ∧ ∃ a4, S.FR 66 x0 = some a4 ∧ isA S a4 21 ∧ vp_in z0 (S.N a4) ∧ Φ S (S.AI a4 z0.toNatClampNeg)))))
set_option maxHeartbeats 4000000 in
set_option maxRecDepth 100000 in
theorem bX1_startOf_b16 {p : Program} {l : Launch} {e : Env} {s : State} {m : MethodId} {args : Array Value} {below : List Frame} {meth : Method} {c : Code} {G : Gw} {x0 : Nat} {x1 : Int32} {Φ : Hp → Int32 → Prop} (C0 : Mx p s m c cX1_startOf 3 args yX1_startOf.cls G) (Y : My meth (some .int))  : ∀ (S : Hp) (z0 : Int32) (H : Heap) (locs : List Loc) (ls : Array Slot), wX1_startOf_b16 x0 x1 Φ S z0 → Ok G S H → va_S (Ab G.b) s.heap H locs → lv_has ls 3 [(0, .ref x0), (1, .int x1)] → W p l e rm_X1_startOf s m args below meth c H locs 0 0 (MQ below (gQ G (PI Φ)) args s rm_X1_startOf.cells rm_X1_startOf.slots (Ab G.b)) (F0 m 16 ls [.int z0]) := by
  intro S z0 H locs ls h hO hS hl
  unfold wX1_startOf_b16 at h
  refine lv_istore_n C0.1 C0.2.1 dX1_startOf_16 rfl hl (by decide) rfl (fun ls hl => ?_)
  refine lv_iload_n C0.1 C0.2.1 dX1_startOf_17 rfl (lv_at hl 0 rfl) ?_
  refine lv_if_lt (tgt := 36) C0.1 C0.2.1 dX1_startOf_18 (by decide) (fun c1 => ?_) (fun c1 => ?_)
  · have h := h.1 c1
    refine lv_iconst (v := 0) C0.1 C0.2.1 dX1_startOf_36 (by decide) ?_
    exact e_I C0 Y hO hS h (Nat.le_refl _) (Nat.le_refl _) dX1_startOf_37
  · have h := h.2 c1
    refine lv_iload_n C0.1 C0.2.1 dX1_startOf_21 rfl (lv_at hl 0 rfl) ?_
    refine lv_bipush (v := 24) C0.1 C0.2.1 dX1_startOf_22 (by decide) ?_
    refine lv_icmp_ge (tgt := 36) C0.1 C0.2.1 dX1_startOf_24 (by decide) (fun c2 => ?_) (fun c2 => ?_)
    · have h := h.1 c2
      refine lv_iconst (v := 0) C0.1 C0.2.1 dX1_startOf_36 (by decide) ?_
      exact e_I C0 Y hO hS h (Nat.le_refl _) (Nat.le_refl _) dX1_startOf_37
    · have h := h.2 c2
      refine lv_aload_n C0.1 C0.2.1 dX1_startOf_27 rfl (lv_at hl 1 rfl) ?_
      obtain ⟨i3, h⟩ := h
      obtain ⟨a4, ea4, h⟩ := h
      refine g1_2 C0 hO i3 ea4 tb_988 dX1_startOf_28 ?_
      refine lv_iload_n C0.1 C0.2.1 dX1_startOf_31 rfl (lv_at hl 0 rfl) ?_
      obtain ⟨i5, h⟩ := h
      obtain ⟨e6, h⟩ := h
      refine r_iald C0 hO i5 e6 dX1_startOf_32 ?_
      refine lv_goto (tgt := 37) C0.1 C0.2.1 dX1_startOf_33 (by decide) ?_
      exact e_I C0 Y hO hS h (Nat.le_refl _) (Nat.le_refl _) dX1_startOf_37
def wX1_startOf_b0 (x0 : Nat) (x1 : Int32) (Φ : Hp → Int32 → Prop) (S : Hp) : Prop := ((¬ x1 = 0 → wX1_startOf_b16 x0 x1 Φ S (x1 - 1)) ∧ (x1 = 0 → isA S x0 1 ∧ wX1_startOf_b16 x0 x1 Φ S ((S.FI 69 x0) - 1)))
set_option maxHeartbeats 4000000 in
set_option maxRecDepth 100000 in
theorem bX1_startOf_b0 {p : Program} {l : Launch} {e : Env} {s : State} {m : MethodId} {args : Array Value} {below : List Frame} {meth : Method} {c : Code} {G : Gw} {x0 : Nat} {x1 : Int32} {Φ : Hp → Int32 → Prop} (C0 : Mx p s m c cX1_startOf 3 args yX1_startOf.cls G) (Y : My meth (some .int))  : ∀ (S : Hp) (H : Heap) (locs : List Loc) (ls : Array Slot), wX1_startOf_b0 x0 x1 Φ S → Ok G S H → va_S (Ab G.b) s.heap H locs → lv_has ls 3 [(0, .ref x0), (1, .int x1)] → W p l e rm_X1_startOf s m args below meth c H locs 0 0 (MQ below (gQ G (PI Φ)) args s rm_X1_startOf.cells rm_X1_startOf.slots (Ab G.b)) (F0 m 0 ls []) := by
  intro S H locs ls h hO hS hl
  unfold wX1_startOf_b0 at h
  refine lv_iload_n C0.1 C0.2.1 dX1_startOf_0 rfl (lv_at hl 1 rfl) ?_
  refine lv_if_ne (tgt := 13) C0.1 C0.2.1 dX1_startOf_1 (by decide) (fun c1 => ?_) (fun c1 => ?_)
  · have h := h.1 c1
    refine lv_iload_n C0.1 C0.2.1 dX1_startOf_13 rfl (lv_at hl 1 rfl) ?_
    refine lv_iconst (v := 1) C0.1 C0.2.1 dX1_startOf_14 (by decide) ?_
    refine lv_isub C0.1 C0.2.1 dX1_startOf_15 ?_
    exact bX1_startOf_b16 C0 Y _ _ _ _ _ h hO hS (lv_sub hl [0, 1] rfl)
  · have h := h.2 c1
    refine lv_aload_n C0.1 C0.2.1 dX1_startOf_4 rfl (lv_at hl 0 rfl) ?_
    obtain ⟨i2, h⟩ := h
    refine g1_5 C0 hO i2 tb_992 dX1_startOf_5 ?_
    refine lv_iconst (v := 1) C0.1 C0.2.1 dX1_startOf_8 (by decide) ?_
    refine lv_isub C0.1 C0.2.1 dX1_startOf_9 ?_
    refine lv_goto (tgt := 16) C0.1 C0.2.1 dX1_startOf_10 (by decide) ?_
    exact bX1_startOf_b16 C0 Y _ _ _ _ _ h hO hS (lv_sub hl [0, 1] rfl)
def wX1_startOf (S : Hp) (x0 : Nat) (x1 : Int32) (Φ : Hp → Int32 → Prop) : Prop := wX1_startOf_b0 x0 x1 Φ S
set_option maxRecDepth 100000 in
theorem mX1_startOf {l : Launch} {G : Gw} {S : Hp} {x0 : Nat} {x1 : Int32} {Φ : Hp → Int32 → Prop} (h : wX1_startOf S x0 x1 Φ) : gM l yX1_startOf cX1_startOf 3 (some .int) rm_X1_startOf [.ref x0, .int x1] G S (PI Φ) := by
  unfold gM
  refine Met.ofW (cc := cX1_startOf) (maxL := 3) (ret := (some .int)) (by decide) rfl ?_
  intro p e s m args below meth c s₁ B hml hv
  obtain ⟨rfl, hw⟩ := hv
  obtain ⟨C0, Y, hO⟩ := mx_of B hml hw
  have hS : va_S (Ab G.b) s.heap s.heap [] := va_S.rf
  have hl := lv_entry ([.ref x0, .int x1]) (n := 3) (Nat.le_of_ble_eq_true rfl)
  rw [lg_entry_eq]
  generalize (lg_sl ([.ref x0, .int x1]) ++ List.replicate (3 - (lg_sl ([.ref x0, .int x1])).length) Slot.unset).toArray = ls at hl ⊢
  have hl : lv_has ls 3 [(0, .ref x0), (1, .int x1)] := hl
  exact bX1_startOf_b0 C0 Y S _ _ _ h hO hS hl

def rm_X1_heightWithin : Room := { frames := 2, cells := 1, slots := 2, locals := 56 }
def wX1_heightWithin_b106 (x0 : Nat) (x1 : Int32) (x2 : Int32) (Φ : Hp → Option Nat → Prop) (S : Hp) (v3 : Int64) (v5 : Int64) (v9 : Int64) (z0 : Int64) : Prop := ∀ a1 S2, a1 ∉ S.L → S2 = S.new a1 3 0 → wX3_init S2 a1 ((v3 * v9) + (v5 * z0)) v9 (fun S3 => Φ S3 (some a1))
set_option maxHeartbeats 4000000 in
set_option maxRecDepth 100000 in
theorem bX1_heightWithin_b106 {p : Program} {l : Launch} {e : Env} {s : State} {m : MethodId} {args : Array Value} {below : List Frame} {meth : Method} {c : Code} {G : Gw} {x0 : Nat} {x1 : Int32} {x2 : Int32} {Φ : Hp → Option Nat → Prop} (C0 : Mx p s m c cX1_heightWithin 15 args yX1_heightWithin.cls G) (Y : My meth (some (.object "Linkwright$Fraction")))  : ∀ (S : Hp) (v3 : Int64) (v5 : Int64) (v9 : Int64) (z0 : Int64) (H : Heap) (locs : List Loc) (ls : Array Slot) (cells slots : Nat), wX1_heightWithin_b106 x0 x1 x2 Φ S v3 v5 v9 z0 → Ok G S H → va_S (Ab G.b) s.heap H locs → lv_has ls 15 [(0, .ref x0), (1, .int x1), (2, .int x2), (3, .long v3), (5, .long v5), (9, .long v9)] → cells + (1) ≤ 1 → slots + (2) ≤ 2 → W p l e rm_X1_heightWithin s m args below meth c H locs cells slots (MQ below (gQ G (PR Φ)) args s rm_X1_heightWithin.cells rm_X1_heightWithin.slots (Ab G.b)) (F0 m 106 ls [.long z0]) := by
  intro S v3 v5 v9 z0 H locs ls cells slots h hO hS hl hcc hss
  unfold wX1_heightWithin_b106 at h
  refine lv_lstore C0.1 C0.2.1 dX1_heightWithin_106 hl (by decide) rfl (fun ls hl => ?_)
  refine n_3 C0 hO hS tb_429 tb_430 tb_97 (by show _ ≤ 1; omega) (by show _ ≤ 2; omega) dX1_heightWithin_108 (fun a1 H hna1 hO hS => ?_)
  have h := h a1 _ hna1 rfl
  refine lv_dup C0.1 C0.2.1 dX1_heightWithin_111 rfl ?_
  refine lv_lload_n C0.1 C0.2.1 dX1_heightWithin_112 rfl (lv_at hl 4 rfl) ?_
  refine lv_lload C0.1 C0.2.1 dX1_heightWithin_113 (lv_at hl 6 rfl) ?_
  refine lv_lmul C0.1 C0.2.1 dX1_heightWithin_115 ?_
  refine lv_lload C0.1 C0.2.1 dX1_heightWithin_116 (lv_at hl 5 rfl) ?_
  refine lv_lload C0.1 C0.2.1 dX1_heightWithin_118 (lv_at hl 0 rfl) ?_
  refine lv_lmul C0.1 C0.2.1 dX1_heightWithin_120 ?_
  refine lv_ladd C0.1 C0.2.1 dX1_heightWithin_121 ?_
  refine lv_lload C0.1 C0.2.1 dX1_heightWithin_122 (lv_at hl 6 rfl) ?_
  refine c_I C0 hO hS (mX3_init h) tb_431 tb_432 tb_97 tb_433 rfl hd_X3_init rfl ⟨⟨by decide, by decide⟩, by show _ + 0 ≤ 1; omega, by show _ + 0 ≤ 2; omega⟩ hl.1 rfl (Nat.le_of_ble_eq_true rfl) dX1_heightWithin_124 (kV (fun S3 H locs h hO hS => ?_))
  change W _ _ _ _ _ _ _ _ _ _ _ _ (_ + 0) (_ + 0) _ _
  exact e_R (v := some a1) C0 Y (Or.inl ⟨_, rfl⟩) hO hS h (by show _ ≤ 1; omega) (by show _ ≤ 2; omega) dX1_heightWithin_127
def wX1_heightWithin_b0 (x0 : Nat) (x1 : Int32) (x2 : Int32) (Φ : Hp → Option Nat → Prop) (S : Hp) : Prop := isA S x0 1 ∧ wX1_startOf S x0 x1 (fun S1 r2 => isA S1 x0 1 ∧ ∃ a5, S1.FR 66 x0 = some a5 ∧ isA S1 a5 21 ∧ vp_in x1 (S1.N a5) ∧ ∃ a8, S1.FR 65 x0 = some a8 ∧ isA S1 a8 21 ∧ vp_in x1 (S1.N a8) ∧ ∃ a11, S1.FR 67 x0 = some a11 ∧ isA S1 a11 20 ∧ vp_in x1 (S1.N a11) ∧ ((¬ (S1.AI a11 x1.toNatClampNeg) = 117 → ((0 < (lg_cmp ((2 * x2).toInt64) ((S1.AI a8 x1.toNatClampNeg).toInt64)) → wX1_heightWithin_b106 x0 x1 x2 Φ S1 r2.toInt64 (((S1.AI a5 x1.toNatClampNeg).toInt64) - r2.toInt64) (((S1.AI a8 x1.toNatClampNeg).toInt64) * ((S1.AI a8 x1.toNatClampNeg).toInt64)) ((((S1.AI a8 x1.toNatClampNeg).toInt64) * ((S1.AI a8 x1.toNatClampNeg).toInt64)) - ((2 * (((S1.AI a8 x1.toNatClampNeg).toInt64) - x2.toInt64)) * (((S1.AI a8 x1.toNatClampNeg).toInt64) - x2.toInt64)))) ∧ (¬ (0 < (lg_cmp ((2 * x2).toInt64) ((S1.AI a8 x1.toNatClampNeg).toInt64))) → wX1_heightWithin_b106 x0 x1 x2 Φ S1 r2.toInt64 (((S1.AI a5 x1.toNatClampNeg).toInt64) - r2.toInt64) (((S1.AI a8 x1.toNatClampNeg).toInt64) * ((S1.AI a8 x1.toNatClampNeg).toInt64)) ((2 * x2.toInt64) * x2.toInt64)))) ∧ ((S1.AI a11 x1.toNatClampNeg) = 117 → ∀ a16 S17, a16 ∉ S1.L → S17 = S1.new a16 3 0 → wX3_init S17 a16 ((r2.toInt64 * ((S1.AI a8 x1.toNatClampNeg).toInt64)) + ((((S1.AI a5 x1.toNatClampNeg).toInt64) - r2.toInt64) * x2.toInt64)) ((S1.AI a8 x1.toNatClampNeg).toInt64) (fun S18 => Φ S18 (some a16)))))
set_option maxHeartbeats 4000000 in
set_option maxRecDepth 100000 in
theorem bX1_heightWithin_b0 {p : Program} {l : Launch} {e : Env} {s : State} {m : MethodId} {args : Array Value} {below : List Frame} {meth : Method} {c : Code} {G : Gw} {x0 : Nat} {x1 : Int32} {x2 : Int32} {Φ : Hp → Option Nat → Prop} (C0 : Mx p s m c cX1_heightWithin 15 args yX1_heightWithin.cls G) (Y : My meth (some (.object "Linkwright$Fraction")))  : ∀ (S : Hp) (H : Heap) (locs : List Loc) (ls : Array Slot) (cells slots : Nat), wX1_heightWithin_b0 x0 x1 x2 Φ S → Ok G S H → va_S (Ab G.b) s.heap H locs → lv_has ls 15 [(0, .ref x0), (1, .int x1), (2, .int x2)] → cells + (1) ≤ 1 → slots + (2) ≤ 2 → W p l e rm_X1_heightWithin s m args below meth c H locs cells slots (MQ below (gQ G (PR Φ)) args s rm_X1_heightWithin.cells rm_X1_heightWithin.slots (Ab G.b)) (F0 m 0 ls []) := by
  intro S H locs ls cells slots h hO hS hl hcc hss
  unfold wX1_heightWithin_b0 at h
  refine lv_aload_n C0.1 C0.2.1 dX1_heightWithin_0 rfl (lv_at hl 0 rfl) ?_
  refine lv_iload_n C0.1 C0.2.1 dX1_heightWithin_1 rfl (lv_at hl 1 rfl) ?_
  obtain ⟨i3, h⟩ := h
  refine c_V C0 hO hS (mX1_startOf h) i3 (by decide) rfl rfl tb_425 tb_427 tb_10 tb_99 tb_428 hd_X1_startOf rfl ⟨⟨by decide, by decide⟩, by show _ + 0 ≤ 1; omega, by show _ + 0 ≤ 2; omega⟩ hl.1 rfl (Nat.le_of_ble_eq_true rfl) dX1_heightWithin_2 (kI (fun r2 S1 H locs h hO hS => ?_))
  change W _ _ _ _ _ _ _ _ _ _ _ _ (_ + 0) (_ + 0) _ _
  refine lv_i2l C0.1 C0.2.1 dX1_heightWithin_5 rfl ?_
  refine lv_lstore_n C0.1 C0.2.1 dX1_heightWithin_6 rfl hl (by decide) rfl (fun ls hl => ?_)
  refine lv_aload_n C0.1 C0.2.1 dX1_heightWithin_7 rfl (lv_at hl 1 rfl) ?_
  obtain ⟨i4, h⟩ := h
  obtain ⟨a5, ea5, h⟩ := h
  refine g1_2 C0 hO i4 ea5 tb_988 dX1_heightWithin_8 ?_
  refine lv_iload_n C0.1 C0.2.1 dX1_heightWithin_11 rfl (lv_at hl 2 rfl) ?_
  obtain ⟨i6, h⟩ := h
  obtain ⟨e7, h⟩ := h
  refine r_iald C0 hO i6 e7 dX1_heightWithin_12 ?_
  refine lv_i2l C0.1 C0.2.1 dX1_heightWithin_13 rfl ?_
  refine lv_lload_n C0.1 C0.2.1 dX1_heightWithin_14 rfl (lv_at hl 0 rfl) ?_
  refine lv_lsub C0.1 C0.2.1 dX1_heightWithin_15 ?_
  refine lv_lstore C0.1 C0.2.1 dX1_heightWithin_16 hl (by decide) rfl (fun ls hl => ?_)
  refine lv_aload_n C0.1 C0.2.1 dX1_heightWithin_18 rfl (lv_at hl 2 rfl) ?_
  obtain ⟨a8, ea8, h⟩ := h
  refine g1_1 C0 hO i4 ea8 tb_987 dX1_heightWithin_19 ?_
  refine lv_iload_n C0.1 C0.2.1 dX1_heightWithin_22 rfl (lv_at hl 3 rfl) ?_
  obtain ⟨i9, h⟩ := h
  obtain ⟨e10, h⟩ := h
  refine r_iald C0 hO i9 e10 dX1_heightWithin_23 ?_
  refine lv_i2l C0.1 C0.2.1 dX1_heightWithin_24 rfl ?_
  refine lv_lstore C0.1 C0.2.1 dX1_heightWithin_25 hl (by decide) rfl (fun ls hl => ?_)
  refine lv_aload_n C0.1 C0.2.1 dX1_heightWithin_27 rfl (lv_at hl 3 rfl) ?_
  obtain ⟨a11, ea11, h⟩ := h
  refine g1_3 C0 hO i4 ea11 tb_989 dX1_heightWithin_28 ?_
  refine lv_iload_n C0.1 C0.2.1 dX1_heightWithin_31 rfl (lv_at hl 4 rfl) ?_
  obtain ⟨i12, h⟩ := h
  obtain ⟨e13, h⟩ := h
  refine r_cald C0 hO i12 e13 dX1_heightWithin_32 ?_
  refine lv_bipush (v := 117) C0.1 C0.2.1 dX1_heightWithin_33 (by decide) ?_
  refine lv_icmp_ne (tgt := 58) C0.1 C0.2.1 dX1_heightWithin_35 (by decide) (fun c14 => ?_) (fun c14 => ?_)
  · have h := h.1 c14
    refine lv_lload C0.1 C0.2.1 dX1_heightWithin_58 (lv_at hl 0 rfl) ?_
    refine lv_lload C0.1 C0.2.1 dX1_heightWithin_60 (lv_at hl 0 rfl) ?_
    refine lv_lmul C0.1 C0.2.1 dX1_heightWithin_62 ?_
    refine lv_lstore C0.1 C0.2.1 dX1_heightWithin_63 hl (by decide) rfl (fun ls hl => ?_)
    refine lv_lload C0.1 C0.2.1 dX1_heightWithin_65 (lv_at hl 1 rfl) ?_
    refine lv_iload_n C0.1 C0.2.1 dX1_heightWithin_67 rfl (lv_at hl 6 rfl) ?_
    refine lv_i2l C0.1 C0.2.1 dX1_heightWithin_68 rfl ?_
    refine lv_lsub C0.1 C0.2.1 dX1_heightWithin_69 ?_
    refine lv_lstore C0.1 C0.2.1 dX1_heightWithin_70 hl (by decide) rfl (fun ls hl => ?_)
    refine lv_iconst (v := 2) C0.1 C0.2.1 dX1_heightWithin_72 (by decide) ?_
    refine lv_iload_n C0.1 C0.2.1 dX1_heightWithin_73 rfl (lv_at hl 7 rfl) ?_
    refine lv_imul C0.1 C0.2.1 dX1_heightWithin_74 ?_
    refine lv_i2l C0.1 C0.2.1 dX1_heightWithin_75 rfl ?_
    refine lv_lload C0.1 C0.2.1 dX1_heightWithin_76 (lv_at hl 2 rfl) ?_
    refine W.lcmp C0.1 C0.2.1 dX1_heightWithin_78 ?_
    refine lv_if_gt (tgt := 94) C0.1 C0.2.1 dX1_heightWithin_79 (by decide) (fun c15 => ?_) (fun c15 => ?_)
    · have h := h.1 c15
      refine lv_lload C0.1 C0.2.1 dX1_heightWithin_94 (lv_at hl 1 rfl) ?_
      refine lv_ldc2 (v := 2) C0.1 C0.2.1 C0.2.2.2.1 (C0.2.2.2.2.1 _ tb_445) dX1_heightWithin_96 ?_
      refine lv_lload C0.1 C0.2.1 dX1_heightWithin_99 (lv_at hl 0 rfl) ?_
      refine lv_lmul C0.1 C0.2.1 dX1_heightWithin_101 ?_
      refine lv_lload C0.1 C0.2.1 dX1_heightWithin_102 (lv_at hl 0 rfl) ?_
      refine lv_lmul C0.1 C0.2.1 dX1_heightWithin_104 ?_
      refine lv_lsub C0.1 C0.2.1 dX1_heightWithin_105 ?_
      exact bX1_heightWithin_b106 C0 Y _ _ _ _ _ _ _ _ _ _ h hO hS (lv_sub hl [5, 6, 7, 4, 3, 1] rfl) (by omega) (by omega)
    · have h := h.2 c15
      refine lv_ldc2 (v := 2) C0.1 C0.2.1 C0.2.2.2.1 (C0.2.2.2.2.1 _ tb_445) dX1_heightWithin_82 ?_
      refine lv_iload_n C0.1 C0.2.1 dX1_heightWithin_85 rfl (lv_at hl 7 rfl) ?_
      refine lv_i2l C0.1 C0.2.1 dX1_heightWithin_86 rfl ?_
      refine lv_lmul C0.1 C0.2.1 dX1_heightWithin_87 ?_
      refine lv_iload_n C0.1 C0.2.1 dX1_heightWithin_88 rfl (lv_at hl 7 rfl) ?_
      refine lv_i2l C0.1 C0.2.1 dX1_heightWithin_89 rfl ?_
      refine lv_lmul C0.1 C0.2.1 dX1_heightWithin_90 ?_
      refine lv_goto (tgt := 106) C0.1 C0.2.1 dX1_heightWithin_91 (by decide) ?_
      exact bX1_heightWithin_b106 C0 Y _ _ _ _ _ _ _ _ _ _ h hO hS (lv_sub hl [5, 6, 7, 4, 3, 1] rfl) (by omega) (by omega)
  · have h := h.2 c14
    refine n_3 C0 hO hS tb_429 tb_430 tb_97 (by show _ ≤ 1; omega) (by show _ ≤ 2; omega) dX1_heightWithin_38 (fun a16 H hna16 hO hS => ?_)
    have h := h a16 _ hna16 rfl
    refine lv_dup C0.1 C0.2.1 dX1_heightWithin_41 rfl ?_
    refine lv_lload_n C0.1 C0.2.1 dX1_heightWithin_42 rfl (lv_at hl 2 rfl) ?_
    refine lv_lload C0.1 C0.2.1 dX1_heightWithin_43 (lv_at hl 0 rfl) ?_
    refine lv_lmul C0.1 C0.2.1 dX1_heightWithin_45 ?_
    refine lv_lload C0.1 C0.2.1 dX1_heightWithin_46 (lv_at hl 1 rfl) ?_
    refine lv_iload_n C0.1 C0.2.1 dX1_heightWithin_48 rfl (lv_at hl 5 rfl) ?_
    refine lv_i2l C0.1 C0.2.1 dX1_heightWithin_49 rfl ?_
    refine lv_lmul C0.1 C0.2.1 dX1_heightWithin_50 ?_
    refine lv_ladd C0.1 C0.2.1 dX1_heightWithin_51 ?_
    refine lv_lload C0.1 C0.2.1 dX1_heightWithin_52 (lv_at hl 0 rfl) ?_
    refine c_I C0 hO hS (mX3_init h) tb_431 tb_432 tb_97 tb_433 rfl hd_X3_init rfl ⟨⟨by decide, by decide⟩, by show _ + 0 ≤ 1; omega, by show _ + 0 ≤ 2; omega⟩ hl.1 rfl (Nat.le_of_ble_eq_true rfl) dX1_heightWithin_54 (kV (fun S18 H locs h hO hS => ?_))
    change W _ _ _ _ _ _ _ _ _ _ _ _ (_ + 0) (_ + 0) _ _
    exact e_R (v := some a16) C0 Y (Or.inl ⟨_, rfl⟩) hO hS h (by show _ ≤ 1; omega) (by show _ ≤ 2; omega) dX1_heightWithin_57
def wX1_heightWithin (S : Hp) (x0 : Nat) (x1 : Int32) (x2 : Int32) (Φ : Hp → Option Nat → Prop) : Prop := wX1_heightWithin_b0 x0 x1 x2 Φ S
set_option maxRecDepth 100000 in
theorem mX1_heightWithin {l : Launch} {G : Gw} {S : Hp} {x0 : Nat} {x1 : Int32} {x2 : Int32} {Φ : Hp → Option Nat → Prop} (h : wX1_heightWithin S x0 x1 x2 Φ) : gM l yX1_heightWithin cX1_heightWithin 15 (some (.object "Linkwright$Fraction")) rm_X1_heightWithin [.ref x0, .int x1, .int x2] G S (PR Φ) := by
  unfold gM
  refine Met.ofW (cc := cX1_heightWithin) (maxL := 15) (ret := (some (.object "Linkwright$Fraction"))) (by decide) rfl ?_
  intro p e s m args below meth c s₁ B hml hv
  obtain ⟨rfl, hw⟩ := hv
  obtain ⟨C0, Y, hO⟩ := mx_of B hml hw
  have hS : va_S (Ab G.b) s.heap s.heap [] := va_S.rf
  have hl := lv_entry ([.ref x0, .int x1, .int x2]) (n := 15) (Nat.le_of_ble_eq_true rfl)
  rw [lg_entry_eq]
  generalize (lg_sl ([.ref x0, .int x1, .int x2]) ++ List.replicate (15 - (lg_sl ([.ref x0, .int x1, .int x2])).length) Slot.unset).toArray = ls at hl ⊢
  have hl : lv_has ls 15 [(0, .ref x0), (1, .int x1), (2, .int x2)] := hl
  exact bX1_heightWithin_b0 C0 Y S _ _ _ 0 0 h hO hS hl (by decide) (by decide)

def rm_X1_heightAt : Room := { frames := 3, cells := 1, slots := 2, locals := 90 }
def wX1_heightAt_b32 (x0 : Nat) (x1 : Int32) (Φ : Hp → Option Nat → Prop) (S : Hp) (v2 : Int32) (v3 : Int32) : Prop := isA S x0 1 ∧ wX1_heightWithin S x0 v3 v2 (fun S1 r2 => ∃ a4, r2 = some a4 ∧ Φ S1 (some a4))
set_option maxHeartbeats 4000000 in
set_option maxRecDepth 100000 in
theorem bX1_heightAt_b32 {p : Program} {l : Launch} {e : Env} {s : State} {m : MethodId} {args : Array Value} {below : List Frame} {meth : Method} {c : Code} {G : Gw} {x0 : Nat} {x1 : Int32} {Φ : Hp → Option Nat → Prop} (C0 : Mx p s m c cX1_heightAt 4 args yX1_heightAt.cls G) (Y : My meth (some (.object "Linkwright$Fraction")))  : ∀ (S : Hp) (v2 : Int32) (v3 : Int32) (H : Heap) (locs : List Loc) (ls : Array Slot) (cells slots : Nat), wX1_heightAt_b32 x0 x1 Φ S v2 v3 → Ok G S H → va_S (Ab G.b) s.heap H locs → lv_has ls 4 [(0, .ref x0), (1, .int x1), (2, .int v2), (3, .int v3)] → cells + (1) ≤ 1 → slots + (2) ≤ 2 → W p l e rm_X1_heightAt s m args below meth c H locs cells slots (MQ below (gQ G (PR Φ)) args s rm_X1_heightAt.cells rm_X1_heightAt.slots (Ab G.b)) (F0 m 32 ls []) := by
  intro S v2 v3 H locs ls cells slots h hO hS hl hcc hss
  unfold wX1_heightAt_b32 at h
  refine lv_aload_n C0.1 C0.2.1 dX1_heightAt_32 rfl (lv_at hl 0 rfl) ?_
  refine lv_iload_n C0.1 C0.2.1 dX1_heightAt_33 rfl (lv_at hl 3 rfl) ?_
  refine lv_iload_n C0.1 C0.2.1 dX1_heightAt_34 rfl (lv_at hl 2 rfl) ?_
  obtain ⟨i3, h⟩ := h
  refine c_V C0 hO hS (mX1_heightWithin h) i3 (by decide) rfl rfl tb_420 tb_422 tb_9 tb_99 tb_424 hd_X1_heightWithin rfl ⟨⟨by decide, by decide⟩, by show _ + 1 ≤ 1; omega, by show _ + 2 ≤ 2; omega⟩ hl.1 rfl (Nat.le_of_ble_eq_true rfl) dX1_heightAt_35 (kR (fun r2 S1 H locs h hO hS => ?_))
  change W _ _ _ _ _ _ _ _ _ _ _ _ (_ + 1) (_ + 2) _ _
  obtain ⟨a4, ea4, h⟩ := h
  subst ea4
  change W _ _ _ _ _ _ _ _ _ _ _ _ _ _ _ (F0 _ _ _ (.ref a4 :: _))
  exact e_R (v := some a4) C0 Y (Or.inl ⟨_, rfl⟩) hO hS h (by show _ ≤ 1; omega) (by show _ ≤ 2; omega) dX1_heightAt_38
def wX1_heightAt_b4 (x0 : Nat) (x1 : Int32) (Φ : Hp → Option Nat → Prop) (k4 : Hp → Int32 → Int32 → Prop) (S : Hp) (v2 : Int32) (v3 : Int32) : Prop := isA S x0 1 ∧ (((S.FI 69 x0) ≤ v3 → ∀ a3 S4, a3 ∉ S.L → S4 = S.new a3 3 0 → wX3_init S4 a3 0 1 (fun S5 => Φ S5 (some a3))) ∧ (¬ ((S.FI 69 x0) ≤ v3) → ∃ a6, S.FR 65 x0 = some a6 ∧ isA S a6 21 ∧ vp_in v3 (S.N a6) ∧ ((v2 < (S.AI a6 v3.toNatClampNeg) → wX1_heightAt_b32 x0 x1 Φ S v2 v3) ∧ (¬ (v2 < (S.AI a6 v3.toNatClampNeg)) → ((¬ v3 = ((S.FI 69 x0) - 1) → ∃ a11, S.FR 65 x0 = some a11 ∧ isA S a11 21 ∧ vp_in v3 (S.N a11) ∧ k4 S (v2 - (S.AI a11 v3.toNatClampNeg)) (v3 + 1)) ∧ (v3 = ((S.FI 69 x0) - 1) → wX1_heightAt_b32 x0 x1 Φ S v2 v3))))))
set_option maxHeartbeats 4000000 in
set_option maxRecDepth 100000 in
theorem bX1_heightAt_b4 {p : Program} {l : Launch} {e : Env} {s : State} {m : MethodId} {args : Array Value} {below : List Frame} {meth : Method} {c : Code} {G : Gw} {x0 : Nat} {x1 : Int32} {Φ : Hp → Option Nat → Prop} (C0 : Mx p s m c cX1_heightAt 4 args yX1_heightAt.cls G) (Y : My meth (some (.object "Linkwright$Fraction"))) {k4 : Hp → Int32 → Int32 → Prop} (hk4 : ∀ (S : Hp) (v2 : Int32) (v3 : Int32) (H : Heap) (locs : List Loc) (ls : Array Slot) (cells slots : Nat), k4 S v2 v3 → Ok G S H → va_S (Ab G.b) s.heap H locs → lv_has ls 4 [(0, .ref x0), (1, .int x1), (2, .int v2), (3, .int v3)] → cells + (1) ≤ 1 → slots + (2) ≤ 2 → W p l e rm_X1_heightAt s m args below meth c H locs cells slots (MQ below (gQ G (PR Φ)) args s rm_X1_heightAt.cells rm_X1_heightAt.slots (Ab G.b)) (F0 m 4 ls [])) : ∀ (S : Hp) (v2 : Int32) (v3 : Int32) (H : Heap) (locs : List Loc) (ls : Array Slot) (cells slots : Nat), wX1_heightAt_b4 x0 x1 Φ k4 S v2 v3 → Ok G S H → va_S (Ab G.b) s.heap H locs → lv_has ls 4 [(0, .ref x0), (1, .int x1), (2, .int v2), (3, .int v3)] → cells + (1) ≤ 1 → slots + (2) ≤ 2 → W p l e rm_X1_heightAt s m args below meth c H locs cells slots (MQ below (gQ G (PR Φ)) args s rm_X1_heightAt.cells rm_X1_heightAt.slots (Ab G.b)) (F0 m 4 ls []) := by
  intro S v2 v3 H locs ls cells slots h hO hS hl hcc hss
  unfold wX1_heightAt_b4 at h
  refine lv_iload_n C0.1 C0.2.1 dX1_heightAt_4 rfl (lv_at hl 3 rfl) ?_
  refine lv_aload_n C0.1 C0.2.1 dX1_heightAt_5 rfl (lv_at hl 0 rfl) ?_
  obtain ⟨i1, h⟩ := h
  refine g1_5 C0 hO i1 tb_992 dX1_heightAt_6 ?_
  refine lv_icmp_ge (tgt := 54) C0.1 C0.2.1 dX1_heightAt_9 (by decide) (fun c2 => ?_) (fun c2 => ?_)
  · have h := h.1 c2
    refine n_3 C0 hO hS tb_429 tb_430 tb_97 (by show _ ≤ 1; omega) (by show _ ≤ 2; omega) dX1_heightAt_54 (fun a3 H hna3 hO hS => ?_)
    have h := h a3 _ hna3 rfl
    refine lv_dup C0.1 C0.2.1 dX1_heightAt_57 rfl ?_
    refine lv_lconst (v := 0) C0.1 C0.2.1 dX1_heightAt_58 (by decide) ?_
    refine lv_lconst (v := 1) C0.1 C0.2.1 dX1_heightAt_59 (by decide) ?_
    refine c_I C0 hO hS (mX3_init h) tb_431 tb_432 tb_97 tb_433 rfl hd_X3_init rfl ⟨⟨by decide, by decide⟩, by show _ + 0 ≤ 1; omega, by show _ + 0 ≤ 2; omega⟩ hl.1 rfl (Nat.le_of_ble_eq_true rfl) dX1_heightAt_60 (kV (fun S5 H locs h hO hS => ?_))
    change W _ _ _ _ _ _ _ _ _ _ _ _ (_ + 0) (_ + 0) _ _
    exact e_R (v := some a3) C0 Y (Or.inl ⟨_, rfl⟩) hO hS h (by show _ ≤ 1; omega) (by show _ ≤ 2; omega) dX1_heightAt_63
  · have h := h.2 c2
    refine lv_iload_n C0.1 C0.2.1 dX1_heightAt_12 rfl (lv_at hl 2 rfl) ?_
    refine lv_aload_n C0.1 C0.2.1 dX1_heightAt_13 rfl (lv_at hl 0 rfl) ?_
    obtain ⟨a6, ea6, h⟩ := h
    refine g1_1 C0 hO i1 ea6 tb_987 dX1_heightAt_14 ?_
    refine lv_iload_n C0.1 C0.2.1 dX1_heightAt_17 rfl (lv_at hl 3 rfl) ?_
    obtain ⟨i7, h⟩ := h
    obtain ⟨e8, h⟩ := h
    refine r_iald C0 hO i7 e8 dX1_heightAt_18 ?_
    refine lv_icmp_lt (tgt := 32) C0.1 C0.2.1 dX1_heightAt_19 (by decide) (fun c9 => ?_) (fun c9 => ?_)
    · have h := h.1 c9
      exact bX1_heightAt_b32 C0 Y _ _ _ _ _ _ _ _ h hO hS (lv_sub hl [0, 1, 2, 3] rfl) (by omega) (by omega)
    · have h := h.2 c9
      refine lv_iload_n C0.1 C0.2.1 dX1_heightAt_22 rfl (lv_at hl 3 rfl) ?_
      refine lv_aload_n C0.1 C0.2.1 dX1_heightAt_23 rfl (lv_at hl 0 rfl) ?_
      refine g1_5 C0 hO i1 tb_992 dX1_heightAt_24 ?_
      refine lv_iconst (v := 1) C0.1 C0.2.1 dX1_heightAt_27 (by decide) ?_
      refine lv_isub C0.1 C0.2.1 dX1_heightAt_28 ?_
      refine lv_icmp_ne (tgt := 39) C0.1 C0.2.1 dX1_heightAt_29 (by decide) (fun c10 => ?_) (fun c10 => ?_)
      · have h := h.1 c10
        refine lv_iload_n C0.1 C0.2.1 dX1_heightAt_39 rfl (lv_at hl 2 rfl) ?_
        refine lv_aload_n C0.1 C0.2.1 dX1_heightAt_40 rfl (lv_at hl 0 rfl) ?_
        obtain ⟨a11, ea11, h⟩ := h
        refine g1_1 C0 hO i1 ea11 tb_987 dX1_heightAt_41 ?_
        refine lv_iload_n C0.1 C0.2.1 dX1_heightAt_44 rfl (lv_at hl 3 rfl) ?_
        obtain ⟨i12, h⟩ := h
        obtain ⟨e13, h⟩ := h
        refine r_iald C0 hO i12 e13 dX1_heightAt_45 ?_
        refine lv_isub C0.1 C0.2.1 dX1_heightAt_46 ?_
        refine lv_istore_n C0.1 C0.2.1 dX1_heightAt_47 rfl hl (by decide) rfl (fun ls hl => ?_)
        refine lv_iinc (v := _ + 1) C0.1 C0.2.1 dX1_heightAt_48 hl (k := 3) rfl rfl (by decide) rfl (fun ls hl => ?_)
        refine lv_goto (tgt := 4) C0.1 C0.2.1 dX1_heightAt_51 (by decide) ?_
        exact hk4 _ _ _ _ _ _ _ _ h hO hS (lv_sub hl [2, 3, 1, 0] rfl) (by omega) (by omega)
      · have h := h.2 c10
        exact bX1_heightAt_b32 C0 Y _ _ _ _ _ _ _ _ h hO hS (lv_sub hl [0, 1, 2, 3] rfl) (by omega) (by omega)
set_option maxHeartbeats 4000000 in
set_option maxRecDepth 100000 in
theorem lX1_heightAt_b4 {p : Program} {l : Launch} {e : Env} {s : State} {m : MethodId} {args : Array Value} {below : List Frame} {meth : Method} {c : Code} {G : Gw} {x0 : Nat} {x1 : Int32} {Φ : Hp → Option Nat → Prop} (C0 : Mx p s m c cX1_heightAt 4 args yX1_heightAt.cls G) (Y : My meth (some (.object "Linkwright$Fraction")))  : ∀ n9 : Nat, ∀ (S : Hp) (v2 : Int32) (v3 : Int32) (H : Heap) (locs : List Loc) (ls : Array Slot) (cells slots : Nat), it3 (wX1_heightAt_b4 x0 x1 Φ) n9 S v2 v3 → Ok G S H → va_S (Ab G.b) s.heap H locs → lv_has ls 4 [(0, .ref x0), (1, .int x1), (2, .int v2), (3, .int v3)] → cells + (1) ≤ 1 → slots + (2) ≤ 2 → W p l e rm_X1_heightAt s m args below meth c H locs cells slots (MQ below (gQ G (PR Φ)) args s rm_X1_heightAt.cells rm_X1_heightAt.slots (Ab G.b)) (F0 m 4 ls []) := by
  intro n9
  induction n9 with
  | zero => intro S v2 v3 H locs ls cells slots h; exact (h : False).elim
  | succ n9 ih => intro S v2 v3 H locs ls cells slots h hO hS hl hcc hss; exact bX1_heightAt_b4 C0 Y ih S v2 v3 H locs ls cells slots h hO hS hl (by omega) (by omega)
def wX1_heightAt_b0 (x0 : Nat) (x1 : Int32) (Φ : Hp → Option Nat → Prop) (S : Hp) : Prop := ∃ n, it3 (wX1_heightAt_b4 x0 x1 Φ) n S x1 0
set_option maxHeartbeats 4000000 in
set_option maxRecDepth 100000 in
theorem bX1_heightAt_b0 {p : Program} {l : Launch} {e : Env} {s : State} {m : MethodId} {args : Array Value} {below : List Frame} {meth : Method} {c : Code} {G : Gw} {x0 : Nat} {x1 : Int32} {Φ : Hp → Option Nat → Prop} (C0 : Mx p s m c cX1_heightAt 4 args yX1_heightAt.cls G) (Y : My meth (some (.object "Linkwright$Fraction")))  : ∀ (S : Hp) (H : Heap) (locs : List Loc) (ls : Array Slot) (cells slots : Nat), wX1_heightAt_b0 x0 x1 Φ S → Ok G S H → va_S (Ab G.b) s.heap H locs → lv_has ls 4 [(0, .ref x0), (1, .int x1)] → cells + (1) ≤ 1 → slots + (2) ≤ 2 → W p l e rm_X1_heightAt s m args below meth c H locs cells slots (MQ below (gQ G (PR Φ)) args s rm_X1_heightAt.cells rm_X1_heightAt.slots (Ab G.b)) (F0 m 0 ls []) := by
  intro S H locs ls cells slots h hO hS hl hcc hss
  unfold wX1_heightAt_b0 at h
  refine lv_iload_n C0.1 C0.2.1 dX1_heightAt_0 rfl (lv_at hl 1 rfl) ?_
  refine lv_istore_n C0.1 C0.2.1 dX1_heightAt_1 rfl hl (by decide) rfl (fun ls hl => ?_)
  refine lv_iconst (v := 0) C0.1 C0.2.1 dX1_heightAt_2 (by decide) ?_
  refine lv_istore_n C0.1 C0.2.1 dX1_heightAt_3 rfl hl (by decide) rfl (fun ls hl => ?_)
  obtain ⟨n9, h⟩ := h
  exact lX1_heightAt_b4 C0 Y n9 _ _ _ _ _ _ _ _ h hO hS (lv_sub hl [2, 3, 1, 0] rfl) (by omega) (by omega)
def wX1_heightAt (S : Hp) (x0 : Nat) (x1 : Int32) (Φ : Hp → Option Nat → Prop) : Prop := wX1_heightAt_b0 x0 x1 Φ S
set_option maxRecDepth 100000 in
theorem mX1_heightAt {l : Launch} {G : Gw} {S : Hp} {x0 : Nat} {x1 : Int32} {Φ : Hp → Option Nat → Prop} (h : wX1_heightAt S x0 x1 Φ) : gM l yX1_heightAt cX1_heightAt 4 (some (.object "Linkwright$Fraction")) rm_X1_heightAt [.ref x0, .int x1] G S (PR Φ) := by
  unfold gM
  refine Met.ofW (cc := cX1_heightAt) (maxL := 4) (ret := (some (.object "Linkwright$Fraction"))) (by decide) rfl ?_
  intro p e s m args below meth c s₁ B hml hv
  obtain ⟨rfl, hw⟩ := hv
  obtain ⟨C0, Y, hO⟩ := mx_of B hml hw
  have hS : va_S (Ab G.b) s.heap s.heap [] := va_S.rf
  have hl := lv_entry ([.ref x0, .int x1]) (n := 4) (Nat.le_of_ble_eq_true rfl)
  rw [lg_entry_eq]
  generalize (lg_sl ([.ref x0, .int x1]) ++ List.replicate (4 - (lg_sl ([.ref x0, .int x1])).length) Slot.unset).toArray = ls at hl ⊢
  have hl : lv_has ls 4 [(0, .ref x0), (1, .int x1)] := hl
  exact bX1_heightAt_b0 C0 Y S _ _ _ 0 0 h hO hS hl (by decide) (by decide)

def rm_X1_steepRise : Room := { frames := 1, cells := 0, slots := 0, locals := 15 }
def wX1_steepRise_b0 (x0 : Int32) (x1 : Int32) (x2 : Int32) (Φ : Hp → Int32 → Prop) (S : Hp) : Prop := ((¬ x2 = 112 → Φ S (if 0 ≤ (x1 - x0) then (x1 - x0) else 0 - (x1 - x0))) ∧ (x2 = 112 → Φ S (2 * (if 0 ≤ (x1 - x0) then (x1 - x0) else 0 - (x1 - x0)))))
set_option maxHeartbeats 4000000 in
set_option maxRecDepth 100000 in
theorem bX1_steepRise_b0 {p : Program} {l : Launch} {e : Env} {s : State} {m : MethodId} {args : Array Value} {below : List Frame} {meth : Method} {c : Code} {G : Gw} {x0 : Int32} {x1 : Int32} {x2 : Int32} {Φ : Hp → Int32 → Prop} (C0 : Mx p s m c cX1_steepRise 4 args yX1_steepRise.cls G) (Y : My meth (some .int))  : ∀ (S : Hp) (H : Heap) (locs : List Loc) (ls : Array Slot), wX1_steepRise_b0 x0 x1 x2 Φ S → Ok G S H → va_S (Ab G.b) s.heap H locs → lv_has ls 4 [(0, .int x0), (1, .int x1), (2, .int x2)] → W p l e rm_X1_steepRise s m args below meth c H locs 0 0 (MQ below (gQ G (PI Φ)) args s rm_X1_steepRise.cells rm_X1_steepRise.slots (Ab G.b)) (F0 m 0 ls []) := by
  intro S H locs ls h hO hS hl
  unfold wX1_steepRise_b0 at h
  refine lv_iload_n C0.1 C0.2.1 dX1_steepRise_0 rfl (lv_at hl 1 rfl) ?_
  refine lv_iload_n C0.1 C0.2.1 dX1_steepRise_1 rfl (lv_at hl 0 rfl) ?_
  refine lv_isub C0.1 C0.2.1 dX1_steepRise_2 ?_
  refine va_mabs C0.1 C0.2.1 (C0.2.2.1.trans hl.1.symm) C0.2.2.2.1 (C0.2.2.2.2.1 _ tb_1082) (C0.2.2.2.2.1 _ tb_303) (C0.2.2.2.2.1 _ tb_94) (C0.2.2.2.2.1 _ tb_304) (Nat.le_of_ble_eq_true rfl) (Nat.le_of_ble_eq_true rfl) (by decide) (by decide) dX1_steepRise_3 ?_
  refine lv_istore_n C0.1 C0.2.1 dX1_steepRise_6 rfl hl (by decide) rfl (fun ls hl => ?_)
  refine lv_iload_n C0.1 C0.2.1 dX1_steepRise_7 rfl (lv_at hl 3 rfl) ?_
  refine lv_bipush (v := 112) C0.1 C0.2.1 dX1_steepRise_8 (by decide) ?_
  refine lv_icmp_ne (tgt := 19) C0.1 C0.2.1 dX1_steepRise_10 (by decide) (fun c1 => ?_) (fun c1 => ?_)
  · have h := h.1 c1
    refine lv_iload_n C0.1 C0.2.1 dX1_steepRise_19 rfl (lv_at hl 0 rfl) ?_
    exact e_I C0 Y hO hS h (Nat.le_refl _) (Nat.le_refl _) dX1_steepRise_20
  · have h := h.2 c1
    refine lv_iconst (v := 2) C0.1 C0.2.1 dX1_steepRise_13 (by decide) ?_
    refine lv_iload_n C0.1 C0.2.1 dX1_steepRise_14 rfl (lv_at hl 0 rfl) ?_
    refine lv_imul C0.1 C0.2.1 dX1_steepRise_15 ?_
    refine lv_goto (tgt := 20) C0.1 C0.2.1 dX1_steepRise_16 (by decide) ?_
    exact e_I C0 Y hO hS h (Nat.le_refl _) (Nat.le_refl _) dX1_steepRise_20
def wX1_steepRise (S : Hp) (x0 : Int32) (x1 : Int32) (x2 : Int32) (Φ : Hp → Int32 → Prop) : Prop := wX1_steepRise_b0 x0 x1 x2 Φ S
set_option maxRecDepth 100000 in
theorem mX1_steepRise {l : Launch} {G : Gw} {S : Hp} {x0 : Int32} {x1 : Int32} {x2 : Int32} {Φ : Hp → Int32 → Prop} (h : wX1_steepRise S x0 x1 x2 Φ) : gM l yX1_steepRise cX1_steepRise 4 (some .int) rm_X1_steepRise [.int x0, .int x1, .int x2] G S (PI Φ) := by
  unfold gM
  refine Met.ofW (cc := cX1_steepRise) (maxL := 4) (ret := (some .int)) (by decide) rfl ?_
  intro p e s m args below meth c s₁ B hml hv
  obtain ⟨rfl, hw⟩ := hv
  obtain ⟨C0, Y, hO⟩ := mx_of B hml hw
  have hS : va_S (Ab G.b) s.heap s.heap [] := va_S.rf
  have hl := lv_entry ([.int x0, .int x1, .int x2]) (n := 4) (Nat.le_of_ble_eq_true rfl)
  rw [lg_entry_eq]
  generalize (lg_sl ([.int x0, .int x1, .int x2]) ++ List.replicate (4 - (lg_sl ([.int x0, .int x1, .int x2])).length) Slot.unset).toArray = ls at hl ⊢
  have hl : lv_has ls 4 [(0, .int x0), (1, .int x1), (2, .int x2)] := hl
  exact bX1_steepRise_b0 C0 Y S _ _ _ h hO hS hl

def rm_X1_steepest : Room := { frames := 2, cells := 1, slots := 2, locals := 56 }
def wX1_steepest_b72 (x0 : Nat) (Φ : Hp → Option Nat → Prop) (k7 : Hp → Int64 → Int64 → Int32 → Prop) (S : Hp) (v1 : Int64) (v3 : Int64) (v5 : Int32) : Prop := k7 S v1 v3 (v5 + 1)
set_option maxHeartbeats 4000000 in
set_option maxRecDepth 100000 in
theorem bX1_steepest_b72 {p : Program} {l : Launch} {e : Env} {s : State} {m : MethodId} {args : Array Value} {below : List Frame} {meth : Method} {c : Code} {G : Gw} {x0 : Nat} {Φ : Hp → Option Nat → Prop} (C0 : Mx p s m c cX1_steepest 8 args yX1_steepest.cls G) (Y : My meth (some (.object "Linkwright$Fraction"))) {k7 : Hp → Int64 → Int64 → Int32 → Prop} (hk7 : ∀ (S : Hp) (v1 : Int64) (v3 : Int64) (v5 : Int32) (H : Heap) (locs : List Loc) (ls : Array Slot) (cells slots : Nat), k7 S v1 v3 v5 → Ok G S H → va_S (Ab G.b) s.heap H locs → lv_has ls 8 [(0, .ref x0), (1, .long v1), (3, .long v3), (5, .int v5)] → cells + (1) ≤ 1 → slots + (2) ≤ 2 → W p l e rm_X1_steepest s m args below meth c H locs cells slots (MQ below (gQ G (PR Φ)) args s rm_X1_steepest.cells rm_X1_steepest.slots (Ab G.b)) (F0 m 7 ls [])) : ∀ (S : Hp) (v1 : Int64) (v3 : Int64) (v5 : Int32) (H : Heap) (locs : List Loc) (ls : Array Slot) (cells slots : Nat), wX1_steepest_b72 x0 Φ k7 S v1 v3 v5 → Ok G S H → va_S (Ab G.b) s.heap H locs → lv_has ls 8 [(0, .ref x0), (1, .long v1), (3, .long v3), (5, .int v5)] → cells + (1) ≤ 1 → slots + (2) ≤ 2 → W p l e rm_X1_steepest s m args below meth c H locs cells slots (MQ below (gQ G (PR Φ)) args s rm_X1_steepest.cells rm_X1_steepest.slots (Ab G.b)) (F0 m 72 ls []) := by
  intro S v1 v3 v5 H locs ls cells slots h hO hS hl hcc hss
  unfold wX1_steepest_b72 at h
  refine lv_iinc (v := _ + 1) C0.1 C0.2.1 dX1_steepest_72 hl (k := 3) rfl rfl (by decide) rfl (fun ls hl => ?_)
  refine lv_goto (tgt := 7) C0.1 C0.2.1 dX1_steepest_75 (by decide) ?_
  exact hk7 _ _ _ _ _ _ _ _ _ h hO hS (lv_sub hl [1, 2, 3, 0] rfl) (by omega) (by omega)
def wX1_steepest_b7 (x0 : Nat) (Φ : Hp → Option Nat → Prop) (k7 : Hp → Int64 → Int64 → Int32 → Prop) (S : Hp) (v1 : Int64) (v3 : Int64) (v5 : Int32) : Prop := isA S x0 1 ∧ (((S.FI 69 x0) ≤ v5 → ∀ a3 S4, a3 ∉ S.L → S4 = S.new a3 3 0 → wX3_init S4 a3 v1 v3 (fun S5 => Φ S5 (some a3))) ∧ (¬ ((S.FI 69 x0) ≤ v5) → wX1_startOf S x0 v5 (fun S6 r7 => isA S6 x0 1 ∧ ∃ a9, S6.FR 66 x0 = some a9 ∧ isA S6 a9 21 ∧ vp_in v5 (S6.N a9) ∧ ∃ a12, S6.FR 67 x0 = some a12 ∧ isA S6 a12 20 ∧ vp_in v5 (S6.N a12) ∧ wX1_steepRise S6 r7 (S6.AI a9 v5.toNatClampNeg) (S6.AI a12 v5.toNatClampNeg) (fun S15 r16 => isA S15 x0 1 ∧ ∃ a18, S15.FR 65 x0 = some a18 ∧ isA S15 a18 21 ∧ vp_in v5 (S15.N a18) ∧ (((lg_cmp (r16.toInt64 * v3) (v1 * ((S15.AI a18 v5.toNatClampNeg).toInt64))) ≤ 0 → wX1_steepest_b72 x0 Φ k7 S15 v1 v3 v5) ∧ (¬ ((lg_cmp (r16.toInt64 * v3) (v1 * ((S15.AI a18 v5.toNatClampNeg).toInt64))) ≤ 0) → ∃ a22, S15.FR 65 x0 = some a22 ∧ isA S15 a22 21 ∧ vp_in v5 (S15.N a22) ∧ wX1_steepest_b72 x0 Φ k7 S15 r16.toInt64 ((S15.AI a22 v5.toNatClampNeg).toInt64) v5))))))
set_option maxHeartbeats 4000000 in
set_option maxRecDepth 100000 in
theorem bX1_steepest_b7 {p : Program} {l : Launch} {e : Env} {s : State} {m : MethodId} {args : Array Value} {below : List Frame} {meth : Method} {c : Code} {G : Gw} {x0 : Nat} {Φ : Hp → Option Nat → Prop} (C0 : Mx p s m c cX1_steepest 8 args yX1_steepest.cls G) (Y : My meth (some (.object "Linkwright$Fraction"))) {k7 : Hp → Int64 → Int64 → Int32 → Prop} (hk7 : ∀ (S : Hp) (v1 : Int64) (v3 : Int64) (v5 : Int32) (H : Heap) (locs : List Loc) (ls : Array Slot) (cells slots : Nat), k7 S v1 v3 v5 → Ok G S H → va_S (Ab G.b) s.heap H locs → lv_has ls 8 [(0, .ref x0), (1, .long v1), (3, .long v3), (5, .int v5)] → cells + (1) ≤ 1 → slots + (2) ≤ 2 → W p l e rm_X1_steepest s m args below meth c H locs cells slots (MQ below (gQ G (PR Φ)) args s rm_X1_steepest.cells rm_X1_steepest.slots (Ab G.b)) (F0 m 7 ls [])) : ∀ (S : Hp) (v1 : Int64) (v3 : Int64) (v5 : Int32) (H : Heap) (locs : List Loc) (ls : Array Slot) (cells slots : Nat), wX1_steepest_b7 x0 Φ k7 S v1 v3 v5 → Ok G S H → va_S (Ab G.b) s.heap H locs → lv_has ls 8 [(0, .ref x0), (1, .long v1), (3, .long v3), (5, .int v5)] → cells + (1) ≤ 1 → slots + (2) ≤ 2 → W p l e rm_X1_steepest s m args below meth c H locs cells slots (MQ below (gQ G (PR Φ)) args s rm_X1_steepest.cells rm_X1_steepest.slots (Ab G.b)) (F0 m 7 ls []) := by
  intro S v1 v3 v5 H locs ls cells slots h hO hS hl hcc hss
  unfold wX1_steepest_b7 at h
  refine lv_iload C0.1 C0.2.1 dX1_steepest_7 (lv_at hl 3 rfl) ?_
  refine lv_aload_n C0.1 C0.2.1 dX1_steepest_9 rfl (lv_at hl 0 rfl) ?_
  obtain ⟨i1, h⟩ := h
  refine g1_5 C0 hO i1 tb_992 dX1_steepest_10 ?_
  refine lv_icmp_ge (tgt := 78) C0.1 C0.2.1 dX1_steepest_13 (by decide) (fun c2 => ?_) (fun c2 => ?_)
  · have h := h.1 c2
    refine n_3 C0 hO hS tb_429 tb_430 tb_97 (by show _ ≤ 1; omega) (by show _ ≤ 2; omega) dX1_steepest_78 (fun a3 H hna3 hO hS => ?_)
    have h := h a3 _ hna3 rfl
    refine lv_dup C0.1 C0.2.1 dX1_steepest_81 rfl ?_
    refine lv_lload_n C0.1 C0.2.1 dX1_steepest_82 rfl (lv_at hl 1 rfl) ?_
    refine lv_lload_n C0.1 C0.2.1 dX1_steepest_83 rfl (lv_at hl 2 rfl) ?_
    refine c_I C0 hO hS (mX3_init h) tb_431 tb_432 tb_97 tb_433 rfl hd_X3_init rfl ⟨⟨by decide, by decide⟩, by show _ + 0 ≤ 1; omega, by show _ + 0 ≤ 2; omega⟩ hl.1 rfl (Nat.le_of_ble_eq_true rfl) dX1_steepest_84 (kV (fun S5 H locs h hO hS => ?_))
    change W _ _ _ _ _ _ _ _ _ _ _ _ (_ + 0) (_ + 0) _ _
    exact e_R (v := some a3) C0 Y (Or.inl ⟨_, rfl⟩) hO hS h (by show _ ≤ 1; omega) (by show _ ≤ 2; omega) dX1_steepest_87
  · have h := h.2 c2
    refine lv_aload_n C0.1 C0.2.1 dX1_steepest_16 rfl (lv_at hl 0 rfl) ?_
    refine lv_iload C0.1 C0.2.1 dX1_steepest_17 (lv_at hl 3 rfl) ?_
    refine c_V C0 hO hS (mX1_startOf h) i1 (by decide) rfl rfl tb_425 tb_427 tb_10 tb_99 tb_428 hd_X1_startOf rfl ⟨⟨by decide, by decide⟩, by show _ + 0 ≤ 1; omega, by show _ + 0 ≤ 2; omega⟩ hl.1 rfl (Nat.le_of_ble_eq_true rfl) dX1_steepest_19 (kI (fun r7 S6 H locs h hO hS => ?_))
    change W _ _ _ _ _ _ _ _ _ _ _ _ (_ + 0) (_ + 0) _ _
    refine lv_aload_n C0.1 C0.2.1 dX1_steepest_22 rfl (lv_at hl 0 rfl) ?_
    obtain ⟨i8, h⟩ := h
    obtain ⟨a9, ea9, h⟩ := h
    refine g1_2 C0 hO i8 ea9 tb_988 dX1_steepest_23 ?_
    refine lv_iload C0.1 C0.2.1 dX1_steepest_26 (lv_at hl 3 rfl) ?_
    obtain ⟨i10, h⟩ := h
    obtain ⟨e11, h⟩ := h
    refine r_iald C0 hO i10 e11 dX1_steepest_28 ?_
    refine lv_aload_n C0.1 C0.2.1 dX1_steepest_29 rfl (lv_at hl 0 rfl) ?_
    obtain ⟨a12, ea12, h⟩ := h
    refine g1_3 C0 hO i8 ea12 tb_989 dX1_steepest_30 ?_
    refine lv_iload C0.1 C0.2.1 dX1_steepest_33 (lv_at hl 3 rfl) ?_
    obtain ⟨i13, h⟩ := h
    obtain ⟨e14, h⟩ := h
    refine r_cald C0 hO i13 e14 dX1_steepest_35 ?_
    refine c_S C0 hO hS (mX1_steepRise h) tb_1079 tb_1080 tb_99 tb_1081 hd_X1_steepRise rfl ⟨⟨by decide, by decide⟩, by show _ + 0 ≤ 1; omega, by show _ + 0 ≤ 2; omega⟩ hl.1 rfl (Nat.le_of_ble_eq_true rfl) dX1_steepest_36 (kI (fun r16 S15 H locs h hO hS => ?_))
    change W _ _ _ _ _ _ _ _ _ _ _ _ (_ + 0) (_ + 0) _ _
    refine lv_i2l C0.1 C0.2.1 dX1_steepest_39 rfl ?_
    refine lv_lstore C0.1 C0.2.1 dX1_steepest_40 hl (by decide) rfl (fun ls hl => ?_)
    refine lv_lload C0.1 C0.2.1 dX1_steepest_42 (lv_at hl 0 rfl) ?_
    refine lv_lload_n C0.1 C0.2.1 dX1_steepest_44 rfl (lv_at hl 3 rfl) ?_
    refine lv_lmul C0.1 C0.2.1 dX1_steepest_45 ?_
    refine lv_lload_n C0.1 C0.2.1 dX1_steepest_46 rfl (lv_at hl 2 rfl) ?_
    refine lv_aload_n C0.1 C0.2.1 dX1_steepest_47 rfl (lv_at hl 1 rfl) ?_
    obtain ⟨i17, h⟩ := h
    obtain ⟨a18, ea18, h⟩ := h
    refine g1_1 C0 hO i17 ea18 tb_987 dX1_steepest_48 ?_
    refine lv_iload C0.1 C0.2.1 dX1_steepest_51 (lv_at hl 4 rfl) ?_
    obtain ⟨i19, h⟩ := h
    obtain ⟨e20, h⟩ := h
    refine r_iald C0 hO i19 e20 dX1_steepest_53 ?_
    refine lv_i2l C0.1 C0.2.1 dX1_steepest_54 rfl ?_
    refine lv_lmul C0.1 C0.2.1 dX1_steepest_55 ?_
    refine W.lcmp C0.1 C0.2.1 dX1_steepest_56 ?_
    refine lv_if_le (tgt := 72) C0.1 C0.2.1 dX1_steepest_57 (by decide) (fun c21 => ?_) (fun c21 => ?_)
    · have h := h.1 c21
      exact bX1_steepest_b72 C0 Y hk7 _ _ _ _ _ _ _ _ _ h hO hS (lv_sub hl [1, 2, 3, 4] rfl) (by omega) (by omega)
    · have h := h.2 c21
      refine lv_lload C0.1 C0.2.1 dX1_steepest_60 (lv_at hl 0 rfl) ?_
      refine lv_lstore_n C0.1 C0.2.1 dX1_steepest_62 rfl hl (by decide) rfl (fun ls hl => ?_)
      refine lv_aload_n C0.1 C0.2.1 dX1_steepest_63 rfl (lv_at hl 2 rfl) ?_
      obtain ⟨a22, ea22, h⟩ := h
      refine g1_1 C0 hO i17 ea22 tb_987 dX1_steepest_64 ?_
      refine lv_iload C0.1 C0.2.1 dX1_steepest_67 (lv_at hl 4 rfl) ?_
      obtain ⟨i23, h⟩ := h
      obtain ⟨e24, h⟩ := h
      refine r_iald C0 hO i23 e24 dX1_steepest_69 ?_
      refine lv_i2l C0.1 C0.2.1 dX1_steepest_70 rfl ?_
      refine lv_lstore_n C0.1 C0.2.1 dX1_steepest_71 rfl hl (by decide) rfl (fun ls hl => ?_)
      exact bX1_steepest_b72 C0 Y hk7 _ _ _ _ _ _ _ _ _ h hO hS (lv_sub hl [3, 1, 0, 4] rfl) (by omega) (by omega)
set_option maxHeartbeats 4000000 in
set_option maxRecDepth 100000 in
theorem lX1_steepest_b7 {p : Program} {l : Launch} {e : Env} {s : State} {m : MethodId} {args : Array Value} {below : List Frame} {meth : Method} {c : Code} {G : Gw} {x0 : Nat} {Φ : Hp → Option Nat → Prop} (C0 : Mx p s m c cX1_steepest 8 args yX1_steepest.cls G) (Y : My meth (some (.object "Linkwright$Fraction")))  : ∀ n9 : Nat, ∀ (S : Hp) (v1 : Int64) (v3 : Int64) (v5 : Int32) (H : Heap) (locs : List Loc) (ls : Array Slot) (cells slots : Nat), it4 (wX1_steepest_b7 x0 Φ) n9 S v1 v3 v5 → Ok G S H → va_S (Ab G.b) s.heap H locs → lv_has ls 8 [(0, .ref x0), (1, .long v1), (3, .long v3), (5, .int v5)] → cells + (1) ≤ 1 → slots + (2) ≤ 2 → W p l e rm_X1_steepest s m args below meth c H locs cells slots (MQ below (gQ G (PR Φ)) args s rm_X1_steepest.cells rm_X1_steepest.slots (Ab G.b)) (F0 m 7 ls []) := by
  intro n9
  induction n9 with
  | zero => intro S v1 v3 v5 H locs ls cells slots h; exact (h : False).elim
  | succ n9 ih => intro S v1 v3 v5 H locs ls cells slots h hO hS hl hcc hss; exact bX1_steepest_b7 C0 Y ih S v1 v3 v5 H locs ls cells slots h hO hS hl (by omega) (by omega)
def wX1_steepest_b0 (x0 : Nat) (Φ : Hp → Option Nat → Prop) (S : Hp) : Prop := ∃ n, it4 (wX1_steepest_b7 x0 Φ) n S 0 1 0
set_option maxHeartbeats 4000000 in
set_option maxRecDepth 100000 in
theorem bX1_steepest_b0 {p : Program} {l : Launch} {e : Env} {s : State} {m : MethodId} {args : Array Value} {below : List Frame} {meth : Method} {c : Code} {G : Gw} {x0 : Nat} {Φ : Hp → Option Nat → Prop} (C0 : Mx p s m c cX1_steepest 8 args yX1_steepest.cls G) (Y : My meth (some (.object "Linkwright$Fraction")))  : ∀ (S : Hp) (H : Heap) (locs : List Loc) (ls : Array Slot) (cells slots : Nat), wX1_steepest_b0 x0 Φ S → Ok G S H → va_S (Ab G.b) s.heap H locs → lv_has ls 8 [(0, .ref x0)] → cells + (1) ≤ 1 → slots + (2) ≤ 2 → W p l e rm_X1_steepest s m args below meth c H locs cells slots (MQ below (gQ G (PR Φ)) args s rm_X1_steepest.cells rm_X1_steepest.slots (Ab G.b)) (F0 m 0 ls []) := by
  intro S H locs ls cells slots h hO hS hl hcc hss
  unfold wX1_steepest_b0 at h
  refine lv_lconst (v := 0) C0.1 C0.2.1 dX1_steepest_0 (by decide) ?_
  refine lv_lstore_n C0.1 C0.2.1 dX1_steepest_1 rfl hl (by decide) rfl (fun ls hl => ?_)
  refine lv_lconst (v := 1) C0.1 C0.2.1 dX1_steepest_2 (by decide) ?_
  refine lv_lstore_n C0.1 C0.2.1 dX1_steepest_3 rfl hl (by decide) rfl (fun ls hl => ?_)
  refine lv_iconst (v := 0) C0.1 C0.2.1 dX1_steepest_4 (by decide) ?_
  refine lv_istore C0.1 C0.2.1 dX1_steepest_5 hl (by decide) rfl (fun ls hl => ?_)
  obtain ⟨n9, h⟩ := h
  exact lX1_steepest_b7 C0 Y n9 _ _ _ _ _ _ _ _ _ h hO hS (lv_sub hl [3, 2, 1, 0] rfl) (by omega) (by omega)
def wX1_steepest (S : Hp) (x0 : Nat) (Φ : Hp → Option Nat → Prop) : Prop := wX1_steepest_b0 x0 Φ S
set_option maxRecDepth 100000 in
theorem mX1_steepest {l : Launch} {G : Gw} {S : Hp} {x0 : Nat} {Φ : Hp → Option Nat → Prop} (h : wX1_steepest S x0 Φ) : gM l yX1_steepest cX1_steepest 8 (some (.object "Linkwright$Fraction")) rm_X1_steepest [.ref x0] G S (PR Φ) := by
  unfold gM
  refine Met.ofW (cc := cX1_steepest) (maxL := 8) (ret := (some (.object "Linkwright$Fraction"))) (by decide) rfl ?_
  intro p e s m args below meth c s₁ B hml hv
  obtain ⟨rfl, hw⟩ := hv
  obtain ⟨C0, Y, hO⟩ := mx_of B hml hw
  have hS : va_S (Ab G.b) s.heap s.heap [] := va_S.rf
  have hl := lv_entry ([.ref x0]) (n := 8) (Nat.le_of_ble_eq_true rfl)
  rw [lg_entry_eq]
  generalize (lg_sl ([.ref x0]) ++ List.replicate (8 - (lg_sl ([.ref x0])).length) Slot.unset).toArray = ls at hl ⊢
  have hl : lv_has ls 8 [(0, .ref x0)] := hl
  exact bX1_steepest_b0 C0 Y S _ _ _ 0 0 h hO hS hl (by decide) (by decide)

def rm_X1_countWishes : Room := { frames := 0, cells := 0, slots := 0, locals := 0 }
def wX1_countWishes_b23 (x0 : Nat) (Φ : Hp → Int32 → Prop) (k4 : Hp → Int32 → Int32 → Prop) (S : Hp) (v1 : Int32) (v2 : Int32) : Prop := k4 S v1 (v2 + 1)
set_option maxHeartbeats 4000000 in
set_option maxRecDepth 100000 in
theorem bX1_countWishes_b23 {p : Program} {l : Launch} {e : Env} {s : State} {m : MethodId} {args : Array Value} {below : List Frame} {meth : Method} {c : Code} {G : Gw} {x0 : Nat} {Φ : Hp → Int32 → Prop} (C0 : Mx p s m c cX1_countWishes 3 args yX1_countWishes.cls G) (Y : My meth (some .int)) {k4 : Hp → Int32 → Int32 → Prop} (hk4 : ∀ (S : Hp) (v1 : Int32) (v2 : Int32) (H : Heap) (locs : List Loc) (ls : Array Slot), k4 S v1 v2 → Ok G S H → va_S (Ab G.b) s.heap H locs → lv_has ls 3 [(0, .ref x0), (1, .int v1), (2, .int v2)] → W p l e rm_X1_countWishes s m args below meth c H locs 0 0 (MQ below (gQ G (PI Φ)) args s rm_X1_countWishes.cells rm_X1_countWishes.slots (Ab G.b)) (F0 m 4 ls [])) : ∀ (S : Hp) (v1 : Int32) (v2 : Int32) (H : Heap) (locs : List Loc) (ls : Array Slot), wX1_countWishes_b23 x0 Φ k4 S v1 v2 → Ok G S H → va_S (Ab G.b) s.heap H locs → lv_has ls 3 [(0, .ref x0), (1, .int v1), (2, .int v2)] → W p l e rm_X1_countWishes s m args below meth c H locs 0 0 (MQ below (gQ G (PI Φ)) args s rm_X1_countWishes.cells rm_X1_countWishes.slots (Ab G.b)) (F0 m 23 ls []) := by
  intro S v1 v2 H locs ls h hO hS hl
  unfold wX1_countWishes_b23 at h
  refine lv_iinc (v := _ + 1) C0.1 C0.2.1 dX1_countWishes_23 hl (k := 2) rfl rfl (by decide) rfl (fun ls hl => ?_)
  refine lv_goto (tgt := 4) C0.1 C0.2.1 dX1_countWishes_26 (by decide) ?_
  exact hk4 _ _ _ _ _ _ h hO hS (lv_sub hl [1, 2, 0] rfl)
def wX1_countWishes_b4 (x0 : Nat) (Φ : Hp → Int32 → Prop) (k4 : Hp → Int32 → Int32 → Prop) (S : Hp) (v1 : Int32) (v2 : Int32) : Prop := ((24 ≤ v2 → Φ S v1) ∧ (¬ (24 ≤ v2) → isA S x0 1 ∧ ∃ a3, S.FR 68 x0 = some a3 ∧ isA S a3 21 ∧ vp_in v2 (S.N a3) ∧ (((S.AI a3 v2.toNatClampNeg) = (-1) → wX1_countWishes_b23 x0 Φ k4 S v1 v2) ∧ (¬ ((S.AI a3 v2.toNatClampNeg) = (-1)) → wX1_countWishes_b23 x0 Φ k4 S (v1 + 1) v2))))
set_option maxHeartbeats 4000000 in
set_option maxRecDepth 100000 in
theorem bX1_countWishes_b4 {p : Program} {l : Launch} {e : Env} {s : State} {m : MethodId} {args : Array Value} {below : List Frame} {meth : Method} {c : Code} {G : Gw} {x0 : Nat} {Φ : Hp → Int32 → Prop} (C0 : Mx p s m c cX1_countWishes 3 args yX1_countWishes.cls G) (Y : My meth (some .int)) {k4 : Hp → Int32 → Int32 → Prop} (hk4 : ∀ (S : Hp) (v1 : Int32) (v2 : Int32) (H : Heap) (locs : List Loc) (ls : Array Slot), k4 S v1 v2 → Ok G S H → va_S (Ab G.b) s.heap H locs → lv_has ls 3 [(0, .ref x0), (1, .int v1), (2, .int v2)] → W p l e rm_X1_countWishes s m args below meth c H locs 0 0 (MQ below (gQ G (PI Φ)) args s rm_X1_countWishes.cells rm_X1_countWishes.slots (Ab G.b)) (F0 m 4 ls [])) : ∀ (S : Hp) (v1 : Int32) (v2 : Int32) (H : Heap) (locs : List Loc) (ls : Array Slot), wX1_countWishes_b4 x0 Φ k4 S v1 v2 → Ok G S H → va_S (Ab G.b) s.heap H locs → lv_has ls 3 [(0, .ref x0), (1, .int v1), (2, .int v2)] → W p l e rm_X1_countWishes s m args below meth c H locs 0 0 (MQ below (gQ G (PI Φ)) args s rm_X1_countWishes.cells rm_X1_countWishes.slots (Ab G.b)) (F0 m 4 ls []) := by
  intro S v1 v2 H locs ls h hO hS hl
  unfold wX1_countWishes_b4 at h
  refine lv_iload_n C0.1 C0.2.1 dX1_countWishes_4 rfl (lv_at hl 2 rfl) ?_
  refine lv_bipush (v := 24) C0.1 C0.2.1 dX1_countWishes_5 (by decide) ?_
  refine lv_icmp_ge (tgt := 29) C0.1 C0.2.1 dX1_countWishes_7 (by decide) (fun c1 => ?_) (fun c1 => ?_)
  · have h := h.1 c1
    refine lv_iload_n C0.1 C0.2.1 dX1_countWishes_29 rfl (lv_at hl 1 rfl) ?_
    exact e_I C0 Y hO hS h (Nat.le_refl _) (Nat.le_refl _) dX1_countWishes_30
  · have h := h.2 c1
    refine lv_aload_n C0.1 C0.2.1 dX1_countWishes_10 rfl (lv_at hl 0 rfl) ?_
    obtain ⟨i2, h⟩ := h
    obtain ⟨a3, ea3, h⟩ := h
    refine g1_4 C0 hO i2 ea3 tb_990 dX1_countWishes_11 ?_
    refine lv_iload_n C0.1 C0.2.1 dX1_countWishes_14 rfl (lv_at hl 2 rfl) ?_
    obtain ⟨i4, h⟩ := h
    obtain ⟨e5, h⟩ := h
    refine r_iald C0 hO i4 e5 dX1_countWishes_15 ?_
    refine lv_iconst (v := (-1)) C0.1 C0.2.1 dX1_countWishes_16 (by decide) ?_
    refine lv_icmp_eq (tgt := 23) C0.1 C0.2.1 dX1_countWishes_17 (by decide) (fun c6 => ?_) (fun c6 => ?_)
    · have h := h.1 c6
      exact bX1_countWishes_b23 C0 Y hk4 _ _ _ _ _ _ h hO hS (lv_sub hl [0, 1, 2] rfl)
    · have h := h.2 c6
      refine lv_iinc (v := _ + 1) C0.1 C0.2.1 dX1_countWishes_20 hl (k := 1) rfl rfl (by decide) rfl (fun ls hl => ?_)
      exact bX1_countWishes_b23 C0 Y hk4 _ _ _ _ _ _ h hO hS (lv_sub hl [1, 0, 2] rfl)
set_option maxHeartbeats 4000000 in
set_option maxRecDepth 100000 in
theorem lX1_countWishes_b4 {p : Program} {l : Launch} {e : Env} {s : State} {m : MethodId} {args : Array Value} {below : List Frame} {meth : Method} {c : Code} {G : Gw} {x0 : Nat} {Φ : Hp → Int32 → Prop} (C0 : Mx p s m c cX1_countWishes 3 args yX1_countWishes.cls G) (Y : My meth (some .int))  : ∀ n9 : Nat, ∀ (S : Hp) (v1 : Int32) (v2 : Int32) (H : Heap) (locs : List Loc) (ls : Array Slot), it3 (wX1_countWishes_b4 x0 Φ) n9 S v1 v2 → Ok G S H → va_S (Ab G.b) s.heap H locs → lv_has ls 3 [(0, .ref x0), (1, .int v1), (2, .int v2)] → W p l e rm_X1_countWishes s m args below meth c H locs 0 0 (MQ below (gQ G (PI Φ)) args s rm_X1_countWishes.cells rm_X1_countWishes.slots (Ab G.b)) (F0 m 4 ls []) := by
  intro n9
  induction n9 with
  | zero => intro S v1 v2 H locs ls h; exact (h : False).elim
  | succ n9 ih => intro S v1 v2 H locs ls h hO hS hl; exact bX1_countWishes_b4 C0 Y ih S v1 v2 H locs ls h hO hS hl
def wX1_countWishes_b0 (x0 : Nat) (Φ : Hp → Int32 → Prop) (S : Hp) : Prop := ∃ n, it3 (wX1_countWishes_b4 x0 Φ) n S 0 0
set_option maxHeartbeats 4000000 in
set_option maxRecDepth 100000 in
theorem bX1_countWishes_b0 {p : Program} {l : Launch} {e : Env} {s : State} {m : MethodId} {args : Array Value} {below : List Frame} {meth : Method} {c : Code} {G : Gw} {x0 : Nat} {Φ : Hp → Int32 → Prop} (C0 : Mx p s m c cX1_countWishes 3 args yX1_countWishes.cls G) (Y : My meth (some .int))  : ∀ (S : Hp) (H : Heap) (locs : List Loc) (ls : Array Slot), wX1_countWishes_b0 x0 Φ S → Ok G S H → va_S (Ab G.b) s.heap H locs → lv_has ls 3 [(0, .ref x0)] → W p l e rm_X1_countWishes s m args below meth c H locs 0 0 (MQ below (gQ G (PI Φ)) args s rm_X1_countWishes.cells rm_X1_countWishes.slots (Ab G.b)) (F0 m 0 ls []) := by
  intro S H locs ls h hO hS hl
  unfold wX1_countWishes_b0 at h
  refine lv_iconst (v := 0) C0.1 C0.2.1 dX1_countWishes_0 (by decide) ?_
  refine lv_istore_n C0.1 C0.2.1 dX1_countWishes_1 rfl hl (by decide) rfl (fun ls hl => ?_)
  refine lv_iconst (v := 0) C0.1 C0.2.1 dX1_countWishes_2 (by decide) ?_
  refine lv_istore_n C0.1 C0.2.1 dX1_countWishes_3 rfl hl (by decide) rfl (fun ls hl => ?_)
  obtain ⟨n9, h⟩ := h
  exact lX1_countWishes_b4 C0 Y n9 _ _ _ _ _ _ h hO hS (lv_sub hl [2, 1, 0] rfl)
def wX1_countWishes (S : Hp) (x0 : Nat) (Φ : Hp → Int32 → Prop) : Prop := wX1_countWishes_b0 x0 Φ S
set_option maxRecDepth 100000 in
theorem mX1_countWishes {l : Launch} {G : Gw} {S : Hp} {x0 : Nat} {Φ : Hp → Int32 → Prop} (h : wX1_countWishes S x0 Φ) : gM l yX1_countWishes cX1_countWishes 3 (some .int) rm_X1_countWishes [.ref x0] G S (PI Φ) := by
  unfold gM
  refine Met.ofW (cc := cX1_countWishes) (maxL := 3) (ret := (some .int)) (by decide) rfl ?_
  intro p e s m args below meth c s₁ B hml hv
  obtain ⟨rfl, hw⟩ := hv
  obtain ⟨C0, Y, hO⟩ := mx_of B hml hw
  have hS : va_S (Ab G.b) s.heap s.heap [] := va_S.rf
  have hl := lv_entry ([.ref x0]) (n := 3) (Nat.le_of_ble_eq_true rfl)
  rw [lg_entry_eq]
  generalize (lg_sl ([.ref x0]) ++ List.replicate (3 - (lg_sl ([.ref x0])).length) Slot.unset).toArray = ls at hl ⊢
  have hl : lv_has ls 3 [(0, .ref x0)] := hl
  exact bX1_countWishes_b0 C0 Y S _ _ _ h hO hS hl

def rm_X1_nextWished : Room := { frames := 0, cells := 0, slots := 0, locals := 0 }
def wX1_nextWished_b4 (x0 : Nat) (x1 : Int32) (Φ : Hp → Int32 → Prop) (k4 : Hp → Int32 → Prop) (S : Hp) (v2 : Int32) : Prop := ((24 ≤ v2 → Φ S 24) ∧ (¬ (24 ≤ v2) → isA S x0 1 ∧ ∃ a3, S.FR 68 x0 = some a3 ∧ isA S a3 21 ∧ vp_in v2 (S.N a3) ∧ (((S.AI a3 v2.toNatClampNeg) = (-1) → k4 S (v2 + 1)) ∧ (¬ ((S.AI a3 v2.toNatClampNeg) = (-1)) → Φ S v2))))
set_option maxHeartbeats 4000000 in
set_option maxRecDepth 100000 in
theorem bX1_nextWished_b4 {p : Program} {l : Launch} {e : Env} {s : State} {m : MethodId} {args : Array Value} {below : List Frame} {meth : Method} {c : Code} {G : Gw} {x0 : Nat} {x1 : Int32} {Φ : Hp → Int32 → Prop} (C0 : Mx p s m c cX1_nextWished 3 args yX1_nextWished.cls G) (Y : My meth (some .int)) {k4 : Hp → Int32 → Prop} (hk4 : ∀ (S : Hp) (v2 : Int32) (H : Heap) (locs : List Loc) (ls : Array Slot), k4 S v2 → Ok G S H → va_S (Ab G.b) s.heap H locs → lv_has ls 3 [(0, .ref x0), (1, .int x1), (2, .int v2)] → W p l e rm_X1_nextWished s m args below meth c H locs 0 0 (MQ below (gQ G (PI Φ)) args s rm_X1_nextWished.cells rm_X1_nextWished.slots (Ab G.b)) (F0 m 4 ls [])) : ∀ (S : Hp) (v2 : Int32) (H : Heap) (locs : List Loc) (ls : Array Slot), wX1_nextWished_b4 x0 x1 Φ k4 S v2 → Ok G S H → va_S (Ab G.b) s.heap H locs → lv_has ls 3 [(0, .ref x0), (1, .int x1), (2, .int v2)] → W p l e rm_X1_nextWished s m args below meth c H locs 0 0 (MQ below (gQ G (PI Φ)) args s rm_X1_nextWished.cells rm_X1_nextWished.slots (Ab G.b)) (F0 m 4 ls []) := by
  intro S v2 H locs ls h hO hS hl
  unfold wX1_nextWished_b4 at h
  refine lv_iload_n C0.1 C0.2.1 dX1_nextWished_4 rfl (lv_at hl 2 rfl) ?_
  refine lv_bipush (v := 24) C0.1 C0.2.1 dX1_nextWished_5 (by decide) ?_
  refine lv_icmp_ge (tgt := 28) C0.1 C0.2.1 dX1_nextWished_7 (by decide) (fun c1 => ?_) (fun c1 => ?_)
  · have h := h.1 c1
    refine lv_bipush (v := 24) C0.1 C0.2.1 dX1_nextWished_28 (by decide) ?_
    exact e_I C0 Y hO hS h (Nat.le_refl _) (Nat.le_refl _) dX1_nextWished_30
  · have h := h.2 c1
    refine lv_aload_n C0.1 C0.2.1 dX1_nextWished_10 rfl (lv_at hl 0 rfl) ?_
    obtain ⟨i2, h⟩ := h
    obtain ⟨a3, ea3, h⟩ := h
    refine g1_4 C0 hO i2 ea3 tb_990 dX1_nextWished_11 ?_
    refine lv_iload_n C0.1 C0.2.1 dX1_nextWished_14 rfl (lv_at hl 2 rfl) ?_
    obtain ⟨i4, h⟩ := h
    obtain ⟨e5, h⟩ := h
    refine r_iald C0 hO i4 e5 dX1_nextWished_15 ?_
    refine lv_iconst (v := (-1)) C0.1 C0.2.1 dX1_nextWished_16 (by decide) ?_
    refine lv_icmp_eq (tgt := 22) C0.1 C0.2.1 dX1_nextWished_17 (by decide) (fun c6 => ?_) (fun c6 => ?_)
    · have h := h.1 c6
      refine lv_iinc (v := _ + 1) C0.1 C0.2.1 dX1_nextWished_22 hl (k := 2) rfl rfl (by decide) rfl (fun ls hl => ?_)
      refine lv_goto (tgt := 4) C0.1 C0.2.1 dX1_nextWished_25 (by decide) ?_
      exact hk4 _ _ _ _ _ h hO hS (lv_sub hl [1, 2, 0] rfl)
    · have h := h.2 c6
      refine lv_iload_n C0.1 C0.2.1 dX1_nextWished_20 rfl (lv_at hl 2 rfl) ?_
      exact e_I C0 Y hO hS h (Nat.le_refl _) (Nat.le_refl _) dX1_nextWished_21
set_option maxHeartbeats 4000000 in
set_option maxRecDepth 100000 in
theorem lX1_nextWished_b4 {p : Program} {l : Launch} {e : Env} {s : State} {m : MethodId} {args : Array Value} {below : List Frame} {meth : Method} {c : Code} {G : Gw} {x0 : Nat} {x1 : Int32} {Φ : Hp → Int32 → Prop} (C0 : Mx p s m c cX1_nextWished 3 args yX1_nextWished.cls G) (Y : My meth (some .int))  : ∀ n9 : Nat, ∀ (S : Hp) (v2 : Int32) (H : Heap) (locs : List Loc) (ls : Array Slot), it2 (wX1_nextWished_b4 x0 x1 Φ) n9 S v2 → Ok G S H → va_S (Ab G.b) s.heap H locs → lv_has ls 3 [(0, .ref x0), (1, .int x1), (2, .int v2)] → W p l e rm_X1_nextWished s m args below meth c H locs 0 0 (MQ below (gQ G (PI Φ)) args s rm_X1_nextWished.cells rm_X1_nextWished.slots (Ab G.b)) (F0 m 4 ls []) := by
  intro n9
  induction n9 with
  | zero => intro S v2 H locs ls h; exact (h : False).elim
  | succ n9 ih => intro S v2 H locs ls h hO hS hl; exact bX1_nextWished_b4 C0 Y ih S v2 H locs ls h hO hS hl
def wX1_nextWished_b0 (x0 : Nat) (x1 : Int32) (Φ : Hp → Int32 → Prop) (S : Hp) : Prop := ∃ n, it2 (wX1_nextWished_b4 x0 x1 Φ) n S (x1 + 1)
set_option maxHeartbeats 4000000 in
set_option maxRecDepth 100000 in
theorem bX1_nextWished_b0 {p : Program} {l : Launch} {e : Env} {s : State} {m : MethodId} {args : Array Value} {below : List Frame} {meth : Method} {c : Code} {G : Gw} {x0 : Nat} {x1 : Int32} {Φ : Hp → Int32 → Prop} (C0 : Mx p s m c cX1_nextWished 3 args yX1_nextWished.cls G) (Y : My meth (some .int))  : ∀ (S : Hp) (H : Heap) (locs : List Loc) (ls : Array Slot), wX1_nextWished_b0 x0 x1 Φ S → Ok G S H → va_S (Ab G.b) s.heap H locs → lv_has ls 3 [(0, .ref x0), (1, .int x1)] → W p l e rm_X1_nextWished s m args below meth c H locs 0 0 (MQ below (gQ G (PI Φ)) args s rm_X1_nextWished.cells rm_X1_nextWished.slots (Ab G.b)) (F0 m 0 ls []) := by
  intro S H locs ls h hO hS hl
  unfold wX1_nextWished_b0 at h
  refine lv_iload_n C0.1 C0.2.1 dX1_nextWished_0 rfl (lv_at hl 1 rfl) ?_
  refine lv_iconst (v := 1) C0.1 C0.2.1 dX1_nextWished_1 (by decide) ?_
  refine lv_iadd C0.1 C0.2.1 dX1_nextWished_2 ?_
  refine lv_istore_n C0.1 C0.2.1 dX1_nextWished_3 rfl hl (by decide) rfl (fun ls hl => ?_)
  obtain ⟨n9, h⟩ := h
  exact lX1_nextWished_b4 C0 Y n9 _ _ _ _ _ h hO hS (lv_sub hl [1, 2, 0] rfl)
def wX1_nextWished (S : Hp) (x0 : Nat) (x1 : Int32) (Φ : Hp → Int32 → Prop) : Prop := wX1_nextWished_b0 x0 x1 Φ S
set_option maxRecDepth 100000 in
theorem mX1_nextWished {l : Launch} {G : Gw} {S : Hp} {x0 : Nat} {x1 : Int32} {Φ : Hp → Int32 → Prop} (h : wX1_nextWished S x0 x1 Φ) : gM l yX1_nextWished cX1_nextWished 3 (some .int) rm_X1_nextWished [.ref x0, .int x1] G S (PI Φ) := by
  unfold gM
  refine Met.ofW (cc := cX1_nextWished) (maxL := 3) (ret := (some .int)) (by decide) rfl ?_
  intro p e s m args below meth c s₁ B hml hv
  obtain ⟨rfl, hw⟩ := hv
  obtain ⟨C0, Y, hO⟩ := mx_of B hml hw
  have hS : va_S (Ab G.b) s.heap s.heap [] := va_S.rf
  have hl := lv_entry ([.ref x0, .int x1]) (n := 3) (Nat.le_of_ble_eq_true rfl)
  rw [lg_entry_eq]
  generalize (lg_sl ([.ref x0, .int x1]) ++ List.replicate (3 - (lg_sl ([.ref x0, .int x1])).length) Slot.unset).toArray = ls at hl ⊢
  have hl : lv_has ls 3 [(0, .ref x0), (1, .int x1)] := hl
  exact bX1_nextWished_b0 C0 Y S _ _ _ h hO hS hl

def rm_X1_wishedRound : Room := { frames := 0, cells := 0, slots := 0, locals := 0 }
def wX1_wishedRound_b0 (x0 : Nat) (x1 : Int32) (Φ : Hp → Int32 → Prop) (S : Hp) : Prop := isA S x0 1 ∧ ∃ a2, S.FR 68 x0 = some a2 ∧ ((24 ≤ x1 → isA S a2 21 ∧ vp_in 0 (S.N a2) ∧ Φ S (S.AI a2 ((0 : Int32).toNatClampNeg))) ∧ (¬ (24 ≤ x1) → isA S a2 21 ∧ vp_in x1 (S.N a2) ∧ Φ S (S.AI a2 x1.toNatClampNeg)))
set_option maxHeartbeats 4000000 in
set_option maxRecDepth 100000 in
theorem bX1_wishedRound_b0 {p : Program} {l : Launch} {e : Env} {s : State} {m : MethodId} {args : Array Value} {below : List Frame} {meth : Method} {c : Code} {G : Gw} {x0 : Nat} {x1 : Int32} {Φ : Hp → Int32 → Prop} (C0 : Mx p s m c cX1_wishedRound 2 args yX1_wishedRound.cls G) (Y : My meth (some .int))  : ∀ (S : Hp) (H : Heap) (locs : List Loc) (ls : Array Slot), wX1_wishedRound_b0 x0 x1 Φ S → Ok G S H → va_S (Ab G.b) s.heap H locs → lv_has ls 2 [(0, .ref x0), (1, .int x1)] → W p l e rm_X1_wishedRound s m args below meth c H locs 0 0 (MQ below (gQ G (PI Φ)) args s rm_X1_wishedRound.cells rm_X1_wishedRound.slots (Ab G.b)) (F0 m 0 ls []) := by
  intro S H locs ls h hO hS hl
  unfold wX1_wishedRound_b0 at h
  refine lv_aload_n C0.1 C0.2.1 dX1_wishedRound_0 rfl (lv_at hl 0 rfl) ?_
  obtain ⟨i1, h⟩ := h
  obtain ⟨a2, ea2, h⟩ := h
  refine g1_4 C0 hO i1 ea2 tb_990 dX1_wishedRound_1 ?_
  refine lv_iload_n C0.1 C0.2.1 dX1_wishedRound_4 rfl (lv_at hl 1 rfl) ?_
  refine lv_bipush (v := 24) C0.1 C0.2.1 dX1_wishedRound_5 (by decide) ?_
  refine lv_icmp_ge (tgt := 14) C0.1 C0.2.1 dX1_wishedRound_7 (by decide) (fun c3 => ?_) (fun c3 => ?_)
  · have h := h.1 c3
    refine lv_iconst (v := 0) C0.1 C0.2.1 dX1_wishedRound_14 (by decide) ?_
    obtain ⟨i4, h⟩ := h
    obtain ⟨e5, h⟩ := h
    refine r_iald C0 hO i4 e5 dX1_wishedRound_15 ?_
    exact e_I C0 Y hO hS h (Nat.le_refl _) (Nat.le_refl _) dX1_wishedRound_16
  · have h := h.2 c3
    refine lv_iload_n C0.1 C0.2.1 dX1_wishedRound_10 rfl (lv_at hl 1 rfl) ?_
    refine lv_goto (tgt := 15) C0.1 C0.2.1 dX1_wishedRound_11 (by decide) ?_
    obtain ⟨i6, h⟩ := h
    obtain ⟨e7, h⟩ := h
    refine r_iald C0 hO i6 e7 dX1_wishedRound_15 ?_
    exact e_I C0 Y hO hS h (Nat.le_refl _) (Nat.le_refl _) dX1_wishedRound_16
def wX1_wishedRound (S : Hp) (x0 : Nat) (x1 : Int32) (Φ : Hp → Int32 → Prop) : Prop := wX1_wishedRound_b0 x0 x1 Φ S
set_option maxRecDepth 100000 in
theorem mX1_wishedRound {l : Launch} {G : Gw} {S : Hp} {x0 : Nat} {x1 : Int32} {Φ : Hp → Int32 → Prop} (h : wX1_wishedRound S x0 x1 Φ) : gM l yX1_wishedRound cX1_wishedRound 2 (some .int) rm_X1_wishedRound [.ref x0, .int x1] G S (PI Φ) := by
  unfold gM
  refine Met.ofW (cc := cX1_wishedRound) (maxL := 2) (ret := (some .int)) (by decide) rfl ?_
  intro p e s m args below meth c s₁ B hml hv
  obtain ⟨rfl, hw⟩ := hv
  obtain ⟨C0, Y, hO⟩ := mx_of B hml hw
  have hS : va_S (Ab G.b) s.heap s.heap [] := va_S.rf
  have hl := lv_entry ([.ref x0, .int x1]) (n := 2) (Nat.le_of_ble_eq_true rfl)
  rw [lg_entry_eq]
  generalize (lg_sl ([.ref x0, .int x1]) ++ List.replicate (2 - (lg_sl ([.ref x0, .int x1])).length) Slot.unset).toArray = ls at hl ⊢
  have hl : lv_has ls 2 [(0, .ref x0), (1, .int x1)] := hl
  exact bX1_wishedRound_b0 C0 Y S _ _ _ h hO hS hl

def rm_X1_areWishesSteeper : Room := { frames := 2, cells := 0, slots := 0, locals := 38 }
def wX1_areWishesSteeper_b52 (x0 : Nat) (x1 : Int32) (x2 : Int32) (Φ : Hp → Int32 → Prop) (k2 : Hp → Int32 → Prop) (S : Hp) (v3 : Int32) : Prop := k2 S (v3 + 1)
set_option maxHeartbeats 4000000 in
set_option maxRecDepth 100000 in
theorem bX1_areWishesSteeper_b52 {p : Program} {l : Launch} {e : Env} {s : State} {m : MethodId} {args : Array Value} {below : List Frame} {meth : Method} {c : Code} {G : Gw} {x0 : Nat} {x1 : Int32} {x2 : Int32} {Φ : Hp → Int32 → Prop} (C0 : Mx p s m c cX1_areWishesSteeper 5 args yX1_areWishesSteeper.cls G) (Y : My meth (some .boolean)) {k2 : Hp → Int32 → Prop} (hk2 : ∀ (S : Hp) (v3 : Int32) (H : Heap) (locs : List Loc) (ls : Array Slot), k2 S v3 → Ok G S H → va_S (Ab G.b) s.heap H locs → lv_has ls 5 [(0, .ref x0), (1, .int x1), (2, .int x2), (3, .int v3)] → W p l e rm_X1_areWishesSteeper s m args below meth c H locs 0 0 (MQ below (gQ G (PI Φ)) args s rm_X1_areWishesSteeper.cells rm_X1_areWishesSteeper.slots (Ab G.b)) (F0 m 2 ls [])) : ∀ (S : Hp) (v3 : Int32) (H : Heap) (locs : List Loc) (ls : Array Slot), wX1_areWishesSteeper_b52 x0 x1 x2 Φ k2 S v3 → Ok G S H → va_S (Ab G.b) s.heap H locs → lv_has ls 5 [(0, .ref x0), (1, .int x1), (2, .int x2), (3, .int v3)] → W p l e rm_X1_areWishesSteeper s m args below meth c H locs 0 0 (MQ below (gQ G (PI Φ)) args s rm_X1_areWishesSteeper.cells rm_X1_areWishesSteeper.slots (Ab G.b)) (F0 m 52 ls []) := by
  intro S v3 H locs ls h hO hS hl
  unfold wX1_areWishesSteeper_b52 at h
  refine lv_iinc (v := _ + 1) C0.1 C0.2.1 dX1_areWishesSteeper_52 hl (k := 3) rfl rfl (by decide) rfl (fun ls hl => ?_)
  refine lv_goto (tgt := 2) C0.1 C0.2.1 dX1_areWishesSteeper_55 (by decide) ?_
  exact hk2 _ _ _ _ _ h hO hS (lv_sub hl [1, 2, 3, 0] rfl)
def wX1_areWishesSteeper_b2 (x0 : Nat) (x1 : Int32) (x2 : Int32) (Φ : Hp → Int32 → Prop) (k2 : Hp → Int32 → Prop) (S : Hp) (v3 : Int32) : Prop := ((24 ≤ v3 → Φ S 0) ∧ (¬ (24 ≤ v3) → isA S x0 1 ∧ ∃ a3, S.FR 68 x0 = some a3 ∧ isA S a3 21 ∧ vp_in v3 (S.N a3) ∧ (((S.AI a3 v3.toNatClampNeg) = (-1) → wX1_areWishesSteeper_b52 x0 x1 x2 Φ k2 S v3) ∧ (¬ ((S.AI a3 v3.toNatClampNeg) = (-1)) → wX1_nextWished S x0 v3 (fun S7 r8 => isA S7 x0 1 ∧ ∃ a10, S7.FR 68 x0 = some a10 ∧ isA S7 a10 21 ∧ vp_in v3 (S7.N a10) ∧ wX1_wishedRound S7 x0 r8 (fun S13 r14 => wX1_steepRise S13 (S7.AI a10 v3.toNatClampNeg) r14 x1 (fun S15 r16 => ((r16 ≤ (x2 * (r8 - v3)) → wX1_areWishesSteeper_b52 x0 x1 x2 Φ k2 S15 v3) ∧ (¬ (r16 ≤ (x2 * (r8 - v3))) → Φ S15 1)))))))))
set_option maxHeartbeats 4000000 in
set_option maxRecDepth 100000 in
theorem bX1_areWishesSteeper_b2 {p : Program} {l : Launch} {e : Env} {s : State} {m : MethodId} {args : Array Value} {below : List Frame} {meth : Method} {c : Code} {G : Gw} {x0 : Nat} {x1 : Int32} {x2 : Int32} {Φ : Hp → Int32 → Prop} (C0 : Mx p s m c cX1_areWishesSteeper 5 args yX1_areWishesSteeper.cls G) (Y : My meth (some .boolean)) {k2 : Hp → Int32 → Prop} (hk2 : ∀ (S : Hp) (v3 : Int32) (H : Heap) (locs : List Loc) (ls : Array Slot), k2 S v3 → Ok G S H → va_S (Ab G.b) s.heap H locs → lv_has ls 5 [(0, .ref x0), (1, .int x1), (2, .int x2), (3, .int v3)] → W p l e rm_X1_areWishesSteeper s m args below meth c H locs 0 0 (MQ below (gQ G (PI Φ)) args s rm_X1_areWishesSteeper.cells rm_X1_areWishesSteeper.slots (Ab G.b)) (F0 m 2 ls [])) : ∀ (S : Hp) (v3 : Int32) (H : Heap) (locs : List Loc) (ls : Array Slot), wX1_areWishesSteeper_b2 x0 x1 x2 Φ k2 S v3 → Ok G S H → va_S (Ab G.b) s.heap H locs → lv_has ls 5 [(0, .ref x0), (1, .int x1), (2, .int x2), (3, .int v3)] → W p l e rm_X1_areWishesSteeper s m args below meth c H locs 0 0 (MQ below (gQ G (PI Φ)) args s rm_X1_areWishesSteeper.cells rm_X1_areWishesSteeper.slots (Ab G.b)) (F0 m 2 ls []) := by
  intro S v3 H locs ls h hO hS hl
  unfold wX1_areWishesSteeper_b2 at h
  refine lv_iload_n C0.1 C0.2.1 dX1_areWishesSteeper_2 rfl (lv_at hl 3 rfl) ?_
  refine lv_bipush (v := 24) C0.1 C0.2.1 dX1_areWishesSteeper_3 (by decide) ?_
  refine lv_icmp_ge (tgt := 58) C0.1 C0.2.1 dX1_areWishesSteeper_5 (by decide) (fun c1 => ?_) (fun c1 => ?_)
  · have h := h.1 c1
    refine lv_iconst (v := 0) C0.1 C0.2.1 dX1_areWishesSteeper_58 (by decide) ?_
    exact e_Z C0 Y hO hS rfl h (Nat.le_refl _) (Nat.le_refl _) dX1_areWishesSteeper_59
  · have h := h.2 c1
    refine lv_aload_n C0.1 C0.2.1 dX1_areWishesSteeper_8 rfl (lv_at hl 0 rfl) ?_
    obtain ⟨i2, h⟩ := h
    obtain ⟨a3, ea3, h⟩ := h
    refine g1_4 C0 hO i2 ea3 tb_990 dX1_areWishesSteeper_9 ?_
    refine lv_iload_n C0.1 C0.2.1 dX1_areWishesSteeper_12 rfl (lv_at hl 3 rfl) ?_
    obtain ⟨i4, h⟩ := h
    obtain ⟨e5, h⟩ := h
    refine r_iald C0 hO i4 e5 dX1_areWishesSteeper_13 ?_
    refine lv_iconst (v := (-1)) C0.1 C0.2.1 dX1_areWishesSteeper_14 (by decide) ?_
    refine lv_icmp_eq (tgt := 52) C0.1 C0.2.1 dX1_areWishesSteeper_15 (by decide) (fun c6 => ?_) (fun c6 => ?_)
    · have h := h.1 c6
      exact bX1_areWishesSteeper_b52 C0 Y hk2 _ _ _ _ _ h hO hS (lv_sub hl [0, 1, 2, 3] rfl)
    · have h := h.2 c6
      refine lv_aload_n C0.1 C0.2.1 dX1_areWishesSteeper_18 rfl (lv_at hl 0 rfl) ?_
      refine lv_iload_n C0.1 C0.2.1 dX1_areWishesSteeper_19 rfl (lv_at hl 3 rfl) ?_
      refine c_V C0 hO hS (mX1_nextWished h) i2 (by decide) rfl rfl tb_1113 tb_1115 tb_33 tb_99 tb_1116 hd_X1_nextWished rfl ⟨⟨by decide, by decide⟩, by decide, by decide⟩ hl.1 rfl (Nat.le_of_ble_eq_true rfl) dX1_areWishesSteeper_20 (kI (fun r8 S7 H locs h hO hS => ?_))
      refine lv_istore C0.1 C0.2.1 dX1_areWishesSteeper_23 hl (by decide) rfl (fun ls hl => ?_)
      refine lv_aload_n C0.1 C0.2.1 dX1_areWishesSteeper_25 rfl (lv_at hl 1 rfl) ?_
      obtain ⟨i9, h⟩ := h
      obtain ⟨a10, ea10, h⟩ := h
      refine g1_4 C0 hO i9 ea10 tb_990 dX1_areWishesSteeper_26 ?_
      refine lv_iload_n C0.1 C0.2.1 dX1_areWishesSteeper_29 rfl (lv_at hl 4 rfl) ?_
      obtain ⟨i11, h⟩ := h
      obtain ⟨e12, h⟩ := h
      refine r_iald C0 hO i11 e12 dX1_areWishesSteeper_30 ?_
      refine lv_aload_n C0.1 C0.2.1 dX1_areWishesSteeper_31 rfl (lv_at hl 1 rfl) ?_
      refine lv_iload C0.1 C0.2.1 dX1_areWishesSteeper_32 (lv_at hl 0 rfl) ?_
      refine c_V C0 hO hS (mX1_wishedRound h) i9 (by decide) rfl rfl tb_1117 tb_1119 tb_34 tb_99 tb_1120 hd_X1_wishedRound rfl ⟨⟨by decide, by decide⟩, by decide, by decide⟩ hl.1 rfl (Nat.le_of_ble_eq_true rfl) dX1_areWishesSteeper_34 (kI (fun r14 S13 H locs h hO hS => ?_))
      refine lv_iload_n C0.1 C0.2.1 dX1_areWishesSteeper_37 rfl (lv_at hl 2 rfl) ?_
      refine c_S C0 hO hS (mX1_steepRise h) tb_1079 tb_1080 tb_99 tb_1081 hd_X1_steepRise rfl ⟨⟨by decide, by decide⟩, by decide, by decide⟩ hl.1 rfl (Nat.le_of_ble_eq_true rfl) dX1_areWishesSteeper_38 (kI (fun r16 S15 H locs h hO hS => ?_))
      refine lv_iload_n C0.1 C0.2.1 dX1_areWishesSteeper_41 rfl (lv_at hl 3 rfl) ?_
      refine lv_iload C0.1 C0.2.1 dX1_areWishesSteeper_42 (lv_at hl 0 rfl) ?_
      refine lv_iload_n C0.1 C0.2.1 dX1_areWishesSteeper_44 rfl (lv_at hl 4 rfl) ?_
      refine lv_isub C0.1 C0.2.1 dX1_areWishesSteeper_45 ?_
      refine lv_imul C0.1 C0.2.1 dX1_areWishesSteeper_46 ?_
      refine lv_icmp_le (tgt := 52) C0.1 C0.2.1 dX1_areWishesSteeper_47 (by decide) (fun c17 => ?_) (fun c17 => ?_)
      · have h := h.1 c17
        exact bX1_areWishesSteeper_b52 C0 Y hk2 _ _ _ _ _ h hO hS (lv_sub hl [1, 2, 3, 4] rfl)
      · have h := h.2 c17
        refine lv_iconst (v := 1) C0.1 C0.2.1 dX1_areWishesSteeper_50 (by decide) ?_
        exact e_Z C0 Y hO hS rfl h (Nat.le_refl _) (Nat.le_refl _) dX1_areWishesSteeper_51
set_option maxHeartbeats 4000000 in
set_option maxRecDepth 100000 in
theorem lX1_areWishesSteeper_b2 {p : Program} {l : Launch} {e : Env} {s : State} {m : MethodId} {args : Array Value} {below : List Frame} {meth : Method} {c : Code} {G : Gw} {x0 : Nat} {x1 : Int32} {x2 : Int32} {Φ : Hp → Int32 → Prop} (C0 : Mx p s m c cX1_areWishesSteeper 5 args yX1_areWishesSteeper.cls G) (Y : My meth (some .boolean))  : ∀ n9 : Nat, ∀ (S : Hp) (v3 : Int32) (H : Heap) (locs : List Loc) (ls : Array Slot), it2 (wX1_areWishesSteeper_b2 x0 x1 x2 Φ) n9 S v3 → Ok G S H → va_S (Ab G.b) s.heap H locs → lv_has ls 5 [(0, .ref x0), (1, .int x1), (2, .int x2), (3, .int v3)] → W p l e rm_X1_areWishesSteeper s m args below meth c H locs 0 0 (MQ below (gQ G (PI Φ)) args s rm_X1_areWishesSteeper.cells rm_X1_areWishesSteeper.slots (Ab G.b)) (F0 m 2 ls []) := by
  intro n9
  induction n9 with
  | zero => intro S v3 H locs ls h; exact (h : False).elim
  | succ n9 ih => intro S v3 H locs ls h hO hS hl; exact bX1_areWishesSteeper_b2 C0 Y ih S v3 H locs ls h hO hS hl
def wX1_areWishesSteeper_b0 (x0 : Nat) (x1 : Int32) (x2 : Int32) (Φ : Hp → Int32 → Prop) (S : Hp) : Prop := ∃ n, it2 (wX1_areWishesSteeper_b2 x0 x1 x2 Φ) n S 0
set_option maxHeartbeats 4000000 in
set_option maxRecDepth 100000 in
theorem bX1_areWishesSteeper_b0 {p : Program} {l : Launch} {e : Env} {s : State} {m : MethodId} {args : Array Value} {below : List Frame} {meth : Method} {c : Code} {G : Gw} {x0 : Nat} {x1 : Int32} {x2 : Int32} {Φ : Hp → Int32 → Prop} (C0 : Mx p s m c cX1_areWishesSteeper 5 args yX1_areWishesSteeper.cls G) (Y : My meth (some .boolean))  : ∀ (S : Hp) (H : Heap) (locs : List Loc) (ls : Array Slot), wX1_areWishesSteeper_b0 x0 x1 x2 Φ S → Ok G S H → va_S (Ab G.b) s.heap H locs → lv_has ls 5 [(0, .ref x0), (1, .int x1), (2, .int x2)] → W p l e rm_X1_areWishesSteeper s m args below meth c H locs 0 0 (MQ below (gQ G (PI Φ)) args s rm_X1_areWishesSteeper.cells rm_X1_areWishesSteeper.slots (Ab G.b)) (F0 m 0 ls []) := by
  intro S H locs ls h hO hS hl
  unfold wX1_areWishesSteeper_b0 at h
  refine lv_iconst (v := 0) C0.1 C0.2.1 dX1_areWishesSteeper_0 (by decide) ?_
  refine lv_istore_n C0.1 C0.2.1 dX1_areWishesSteeper_1 rfl hl (by decide) rfl (fun ls hl => ?_)
  obtain ⟨n9, h⟩ := h
  exact lX1_areWishesSteeper_b2 C0 Y n9 _ _ _ _ _ h hO hS (lv_sub hl [1, 2, 3, 0] rfl)
def wX1_areWishesSteeper (S : Hp) (x0 : Nat) (x1 : Int32) (x2 : Int32) (Φ : Hp → Int32 → Prop) : Prop := wX1_areWishesSteeper_b0 x0 x1 x2 Φ S
set_option maxRecDepth 100000 in
theorem mX1_areWishesSteeper {l : Launch} {G : Gw} {S : Hp} {x0 : Nat} {x1 : Int32} {x2 : Int32} {Φ : Hp → Int32 → Prop} (h : wX1_areWishesSteeper S x0 x1 x2 Φ) : gM l yX1_areWishesSteeper cX1_areWishesSteeper 5 (some .boolean) rm_X1_areWishesSteeper [.ref x0, .int x1, .int x2] G S (PI Φ) := by
  unfold gM
  refine Met.ofW (cc := cX1_areWishesSteeper) (maxL := 5) (ret := (some .boolean)) (by decide) rfl ?_
  intro p e s m args below meth c s₁ B hml hv
  obtain ⟨rfl, hw⟩ := hv
  obtain ⟨C0, Y, hO⟩ := mx_of B hml hw
  have hS : va_S (Ab G.b) s.heap s.heap [] := va_S.rf
  have hl := lv_entry ([.ref x0, .int x1, .int x2]) (n := 5) (Nat.le_of_ble_eq_true rfl)
  rw [lg_entry_eq]
  generalize (lg_sl ([.ref x0, .int x1, .int x2]) ++ List.replicate (5 - (lg_sl ([.ref x0, .int x1, .int x2])).length) Slot.unset).toArray = ls at hl ⊢
  have hl : lv_has ls 5 [(0, .ref x0), (1, .int x1), (2, .int x2)] := hl
  exact bX1_areWishesSteeper_b0 C0 Y S _ _ _ h hO hS hl

def rm_X1_followWishes : Room := { frames := 1, cells := 0, slots := 0, locals := 23 }
def wX1_followWishes_b41 (x0 : Nat) (x1 : Int32) (Φ : Hp → Prop) (k6 : Hp → Int32 → Prop) (S : Hp) (v2 : Int32) : Prop := k6 S (v2 + 1)
set_option maxHeartbeats 4000000 in
set_option maxRecDepth 100000 in
theorem bX1_followWishes_b41 {p : Program} {l : Launch} {e : Env} {s : State} {m : MethodId} {args : Array Value} {below : List Frame} {meth : Method} {c : Code} {G : Gw} {x0 : Nat} {x1 : Int32} {Φ : Hp → Prop} (C0 : Mx p s m c cX1_followWishes 4 args yX1_followWishes.cls G) (Y : My meth none) {k6 : Hp → Int32 → Prop} (hk6 : ∀ (S : Hp) (v2 : Int32) (H : Heap) (locs : List Loc) (ls : Array Slot), k6 S v2 → Ok G S H → va_S (Ab G.b) s.heap H locs → lv_has ls 4 [(0, .ref x0), (1, .int x1), (2, .int v2)] → W p l e rm_X1_followWishes s m args below meth c H locs 0 0 (MQ below (gQ G (PV Φ)) args s rm_X1_followWishes.cells rm_X1_followWishes.slots (Ab G.b)) (F0 m 6 ls [])) : ∀ (S : Hp) (v2 : Int32) (H : Heap) (locs : List Loc) (ls : Array Slot), wX1_followWishes_b41 x0 x1 Φ k6 S v2 → Ok G S H → va_S (Ab G.b) s.heap H locs → lv_has ls 4 [(0, .ref x0), (1, .int x1), (2, .int v2)] → W p l e rm_X1_followWishes s m args below meth c H locs 0 0 (MQ below (gQ G (PV Φ)) args s rm_X1_followWishes.cells rm_X1_followWishes.slots (Ab G.b)) (F0 m 41 ls []) := by
  intro S v2 H locs ls h hO hS hl
  unfold wX1_followWishes_b41 at h
  refine lv_iinc (v := _ + 1) C0.1 C0.2.1 dX1_followWishes_41 hl (k := 2) rfl rfl (by decide) rfl (fun ls hl => ?_)
  refine lv_goto (tgt := 6) C0.1 C0.2.1 dX1_followWishes_44 (by decide) ?_
  exact hk6 _ _ _ _ _ h hO hS (lv_sub hl [1, 2, 0] rfl)
def wX1_followWishes_b6 (x0 : Nat) (x1 : Int32) (Φ : Hp → Prop) (k6 : Hp → Int32 → Prop) (S : Hp) (v2 : Int32) : Prop := ((24 ≤ v2 → Φ S) ∧ (¬ (24 ≤ v2) → isA S x0 1 ∧ ∃ a3, S.FR 68 x0 = some a3 ∧ isA S a3 21 ∧ vp_in v2 (S.N a3) ∧ (((S.AI a3 v2.toNatClampNeg) = (-1) → wX1_followWishes_b41 x0 x1 Φ k6 S v2) ∧ (¬ ((S.AI a3 v2.toNatClampNeg) = (-1)) → wX1_nextWished S x0 v2 (fun S7 r8 => isA S7 x0 1 ∧ wX1_wishedRound S7 x0 r8 (fun S9 r10 => isA S9 x0 1 ∧ wX1_append S9 x0 (r8 - v2) r10 x1 (fun S12 => wX1_followWishes_b41 x0 x1 Φ k6 S12 v2)))))))
set_option maxHeartbeats 4000000 in
set_option maxRecDepth 100000 in
theorem bX1_followWishes_b6 {p : Program} {l : Launch} {e : Env} {s : State} {m : MethodId} {args : Array Value} {below : List Frame} {meth : Method} {c : Code} {G : Gw} {x0 : Nat} {x1 : Int32} {Φ : Hp → Prop} (C0 : Mx p s m c cX1_followWishes 4 args yX1_followWishes.cls G) (Y : My meth none) {k6 : Hp → Int32 → Prop} (hk6 : ∀ (S : Hp) (v2 : Int32) (H : Heap) (locs : List Loc) (ls : Array Slot), k6 S v2 → Ok G S H → va_S (Ab G.b) s.heap H locs → lv_has ls 4 [(0, .ref x0), (1, .int x1), (2, .int v2)] → W p l e rm_X1_followWishes s m args below meth c H locs 0 0 (MQ below (gQ G (PV Φ)) args s rm_X1_followWishes.cells rm_X1_followWishes.slots (Ab G.b)) (F0 m 6 ls [])) : ∀ (S : Hp) (v2 : Int32) (H : Heap) (locs : List Loc) (ls : Array Slot), wX1_followWishes_b6 x0 x1 Φ k6 S v2 → Ok G S H → va_S (Ab G.b) s.heap H locs → lv_has ls 4 [(0, .ref x0), (1, .int x1), (2, .int v2)] → W p l e rm_X1_followWishes s m args below meth c H locs 0 0 (MQ below (gQ G (PV Φ)) args s rm_X1_followWishes.cells rm_X1_followWishes.slots (Ab G.b)) (F0 m 6 ls []) := by
  intro S v2 H locs ls h hO hS hl
  unfold wX1_followWishes_b6 at h
  refine lv_iload_n C0.1 C0.2.1 dX1_followWishes_6 rfl (lv_at hl 2 rfl) ?_
  refine lv_bipush (v := 24) C0.1 C0.2.1 dX1_followWishes_7 (by decide) ?_
  refine lv_icmp_ge (tgt := 47) C0.1 C0.2.1 dX1_followWishes_9 (by decide) (fun c1 => ?_) (fun c1 => ?_)
  · have h := h.1 c1
    exact e_V C0 Y hO hS h (Nat.le_refl _) (Nat.le_refl _) dX1_followWishes_47
  · have h := h.2 c1
    refine lv_aload_n C0.1 C0.2.1 dX1_followWishes_12 rfl (lv_at hl 0 rfl) ?_
    obtain ⟨i2, h⟩ := h
    obtain ⟨a3, ea3, h⟩ := h
    refine g1_4 C0 hO i2 ea3 tb_990 dX1_followWishes_13 ?_
    refine lv_iload_n C0.1 C0.2.1 dX1_followWishes_16 rfl (lv_at hl 2 rfl) ?_
    obtain ⟨i4, h⟩ := h
    obtain ⟨e5, h⟩ := h
    refine r_iald C0 hO i4 e5 dX1_followWishes_17 ?_
    refine lv_iconst (v := (-1)) C0.1 C0.2.1 dX1_followWishes_18 (by decide) ?_
    refine lv_icmp_eq (tgt := 41) C0.1 C0.2.1 dX1_followWishes_19 (by decide) (fun c6 => ?_) (fun c6 => ?_)
    · have h := h.1 c6
      exact bX1_followWishes_b41 C0 Y hk6 _ _ _ _ _ h hO hS (lv_sub hl [0, 1, 2] rfl)
    · have h := h.2 c6
      refine lv_aload_n C0.1 C0.2.1 dX1_followWishes_22 rfl (lv_at hl 0 rfl) ?_
      refine lv_iload_n C0.1 C0.2.1 dX1_followWishes_23 rfl (lv_at hl 2 rfl) ?_
      refine c_V C0 hO hS (mX1_nextWished h) i2 (by decide) rfl rfl tb_1113 tb_1115 tb_33 tb_99 tb_1116 hd_X1_nextWished rfl ⟨⟨by decide, by decide⟩, by decide, by decide⟩ hl.1 rfl (Nat.le_of_ble_eq_true rfl) dX1_followWishes_24 (kI (fun r8 S7 H locs h hO hS => ?_))
      refine lv_istore_n C0.1 C0.2.1 dX1_followWishes_27 rfl hl (by decide) rfl (fun ls hl => ?_)
      refine lv_aload_n C0.1 C0.2.1 dX1_followWishes_28 rfl (lv_at hl 1 rfl) ?_
      refine lv_iload_n C0.1 C0.2.1 dX1_followWishes_29 rfl (lv_at hl 0 rfl) ?_
      refine lv_iload_n C0.1 C0.2.1 dX1_followWishes_30 rfl (lv_at hl 3 rfl) ?_
      refine lv_isub C0.1 C0.2.1 dX1_followWishes_31 ?_
      refine lv_aload_n C0.1 C0.2.1 dX1_followWishes_32 rfl (lv_at hl 1 rfl) ?_
      refine lv_iload_n C0.1 C0.2.1 dX1_followWishes_33 rfl (lv_at hl 0 rfl) ?_
      obtain ⟨i11, h⟩ := h
      refine c_V C0 hO hS (mX1_wishedRound h) i11 (by decide) rfl rfl tb_1117 tb_1119 tb_34 tb_99 tb_1120 hd_X1_wishedRound rfl ⟨⟨by decide, by decide⟩, by decide, by decide⟩ hl.1 rfl (Nat.le_of_ble_eq_true rfl) dX1_followWishes_34 (kI (fun r10 S9 H locs h hO hS => ?_))
      refine lv_iload_n C0.1 C0.2.1 dX1_followWishes_37 rfl (lv_at hl 2 rfl) ?_
      obtain ⟨i13, h⟩ := h
      refine c_V C0 hO hS (mX1_append h) i13 (by decide) rfl rfl tb_1127 tb_1030 tb_1031 tb_99 tb_1032 hd_X1_append rfl ⟨⟨by decide, by decide⟩, by decide, by decide⟩ hl.1 rfl (Nat.le_of_ble_eq_true rfl) dX1_followWishes_38 (kV (fun S12 H locs h hO hS => ?_))
      exact bX1_followWishes_b41 C0 Y hk6 _ _ _ _ _ h hO hS (lv_sub hl [1, 2, 3] rfl)
set_option maxHeartbeats 4000000 in
set_option maxRecDepth 100000 in
theorem lX1_followWishes_b6 {p : Program} {l : Launch} {e : Env} {s : State} {m : MethodId} {args : Array Value} {below : List Frame} {meth : Method} {c : Code} {G : Gw} {x0 : Nat} {x1 : Int32} {Φ : Hp → Prop} (C0 : Mx p s m c cX1_followWishes 4 args yX1_followWishes.cls G) (Y : My meth none)  : ∀ n9 : Nat, ∀ (S : Hp) (v2 : Int32) (H : Heap) (locs : List Loc) (ls : Array Slot), it2 (wX1_followWishes_b6 x0 x1 Φ) n9 S v2 → Ok G S H → va_S (Ab G.b) s.heap H locs → lv_has ls 4 [(0, .ref x0), (1, .int x1), (2, .int v2)] → W p l e rm_X1_followWishes s m args below meth c H locs 0 0 (MQ below (gQ G (PV Φ)) args s rm_X1_followWishes.cells rm_X1_followWishes.slots (Ab G.b)) (F0 m 6 ls []) := by
  intro n9
  induction n9 with
  | zero => intro S v2 H locs ls h; exact (h : False).elim
  | succ n9 ih => intro S v2 H locs ls h hO hS hl; exact bX1_followWishes_b6 C0 Y ih S v2 H locs ls h hO hS hl
def wX1_followWishes_b0 (x0 : Nat) (x1 : Int32) (Φ : Hp → Prop) (S : Hp) : Prop := isA S x0 1 ∧ wX1_empty S x0 (fun S1 => ∃ n, it2 (wX1_followWishes_b6 x0 x1 Φ) n S1 0)
set_option maxHeartbeats 4000000 in
set_option maxRecDepth 100000 in
theorem bX1_followWishes_b0 {p : Program} {l : Launch} {e : Env} {s : State} {m : MethodId} {args : Array Value} {below : List Frame} {meth : Method} {c : Code} {G : Gw} {x0 : Nat} {x1 : Int32} {Φ : Hp → Prop} (C0 : Mx p s m c cX1_followWishes 4 args yX1_followWishes.cls G) (Y : My meth none)  : ∀ (S : Hp) (H : Heap) (locs : List Loc) (ls : Array Slot), wX1_followWishes_b0 x0 x1 Φ S → Ok G S H → va_S (Ab G.b) s.heap H locs → lv_has ls 4 [(0, .ref x0), (1, .int x1)] → W p l e rm_X1_followWishes s m args below meth c H locs 0 0 (MQ below (gQ G (PV Φ)) args s rm_X1_followWishes.cells rm_X1_followWishes.slots (Ab G.b)) (F0 m 0 ls []) := by
  intro S H locs ls h hO hS hl
  unfold wX1_followWishes_b0 at h
  refine lv_aload_n C0.1 C0.2.1 dX1_followWishes_0 rfl (lv_at hl 0 rfl) ?_
  obtain ⟨i2, h⟩ := h
  refine c_V C0 hO hS (mX1_empty h) i2 (by decide) rfl rfl tb_1126 tb_1041 tb_1042 tb_99 tb_1043 hd_X1_empty rfl ⟨⟨by decide, by decide⟩, by decide, by decide⟩ hl.1 rfl (Nat.le_of_ble_eq_true rfl) dX1_followWishes_1 (kV (fun S1 H locs h hO hS => ?_))
  refine lv_iconst (v := 0) C0.1 C0.2.1 dX1_followWishes_4 (by decide) ?_
  refine lv_istore_n C0.1 C0.2.1 dX1_followWishes_5 rfl hl (by decide) rfl (fun ls hl => ?_)
  obtain ⟨n9, h⟩ := h
  exact lX1_followWishes_b6 C0 Y n9 _ _ _ _ _ h hO hS (lv_sub hl [1, 2, 0] rfl)
def wX1_followWishes (S : Hp) (x0 : Nat) (x1 : Int32) (Φ : Hp → Prop) : Prop := wX1_followWishes_b0 x0 x1 Φ S
set_option maxRecDepth 100000 in
theorem mX1_followWishes {l : Launch} {G : Gw} {S : Hp} {x0 : Nat} {x1 : Int32} {Φ : Hp → Prop} (h : wX1_followWishes S x0 x1 Φ) : gM l yX1_followWishes cX1_followWishes 4 none rm_X1_followWishes [.ref x0, .int x1] G S (PV Φ) := by
  unfold gM
  refine Met.ofW (cc := cX1_followWishes) (maxL := 4) (ret := none) (by decide) rfl ?_
  intro p e s m args below meth c s₁ B hml hv
  obtain ⟨rfl, hw⟩ := hv
  obtain ⟨C0, Y, hO⟩ := mx_of B hml hw
  have hS : va_S (Ab G.b) s.heap s.heap [] := va_S.rf
  have hl := lv_entry ([.ref x0, .int x1]) (n := 4) (Nat.le_of_ble_eq_true rfl)
  rw [lg_entry_eq]
  generalize (lg_sl ([.ref x0, .int x1]) ++ List.replicate (4 - (lg_sl ([.ref x0, .int x1])).length) Slot.unset).toArray = ls at hl ⊢
  have hl : lv_has ls 4 [(0, .ref x0), (1, .int x1)] := hl
  exact bX1_followWishes_b0 C0 Y S _ _ _ h hO hS hl

def rm_X2_init : Room := { frames := 1, cells := 2, slots := 32, locals := 12 }
def wX2_init_b0 (x0 : Nat) (x1 : Int32) (Φ : Hp → Prop) (S : Hp) : Prop := ∀ a1 S2, a1 ∉ S.L → S2 = S.new a1 21 24 → isA S2 x0 2 ∧ ∀ S4, S4 = S2.setFR 129 x0 (some a1) → ∀ a5 S6, a5 ∉ S4.L → S6 = S4.new a5 21 8 → ∀ S7, S7 = S6.setFR 130 x0 (some a5) → ∀ S8, S8 = S7.setFI 128 x0 x1 → Φ S8
set_option maxHeartbeats 4000000 in
set_option maxRecDepth 100000 in
theorem bX2_init_b0 {p : Program} {l : Launch} {e : Env} {s : State} {m : MethodId} {args : Array Value} {below : List Frame} {meth : Method} {c : Code} {G : Gw} {x0 : Nat} {x1 : Int32} {Φ : Hp → Prop} (C0 : Mx p s m c cX2_init 2 args yX2_init.cls G) (Y : My meth none) (hin9 : meth.name = "<init>")  : ∀ (S : Hp) (H : Heap) (locs : List Loc) (ls : Array Slot) (cells slots : Nat), wX2_init_b0 x0 x1 Φ S → Ok G S H → va_S (Ab G.b) s.heap H locs → lv_has ls 2 [(0, .ref x0), (1, .int x1)] → cells + (2) ≤ 2 → slots + (32) ≤ 32 → W p l e rm_X2_init s m args below meth c H locs cells slots (MQ below (gQ G (PV Φ)) args s rm_X2_init.cells rm_X2_init.slots (Ab G.b)) (F0 m 0 ls []) := by
  intro S H locs ls cells slots h hO hS hl hcc hss
  unfold wX2_init_b0 at h
  refine lv_aload_n C0.1 C0.2.1 dX2_init_0 rfl (lv_at hl 0 rfl) ?_
  refine W.objInit C0.1 C0.2.1 C0.2.2.2.1 (C0.2.2.2.2.1 _ tb_1139) (C0.2.2.2.2.1 _ tb_109) (C0.2.2.2.2.1 _ tb_110) rfl (hl.1.trans C0.2.2.1.symm) rfl dX2_init_1 (Nat.le_of_ble_eq_true rfl) (Nat.le_of_ble_eq_true rfl) ?_
  refine W.eq (g2 := F0 _ 4 _ _) rfl ?_
  refine lv_aload_n C0.1 C0.2.1 dX2_init_4 rfl (lv_at hl 0 rfl) ?_
  refine lv_bipush (v := 24) C0.1 C0.2.1 dX2_init_5 (by decide) ?_
  refine n_21k (k := 24) C0 hO hS (by decide) (by show _ ≤ 2; omega) (by show _ ≤ 32; omega) dX2_init_7 (fun a1 H hna1 hO hS => ?_)
  have h := h a1 _ hna1 rfl
  obtain ⟨i3, h⟩ := h
  refine p2_1 C0 hO hS i3 hin9 rfl tb_1142 dX2_init_9 (fun H locs hO hS => ?_)
  have h := h _ rfl
  refine lv_aload_n C0.1 C0.2.1 dX2_init_12 rfl (lv_at hl 0 rfl) ?_
  refine lv_bipush (v := 8) C0.1 C0.2.1 dX2_init_13 (by decide) ?_
  refine n_21k (k := 8) C0 hO hS (by decide) (by show _ ≤ 2; omega) (by show _ ≤ 32; omega) dX2_init_15 (fun a5 H hna5 hO hS => ?_)
  have h := h a5 _ hna5 rfl
  refine p2_2 C0 hO hS (new_old (n := 8) hna5 (sA_FR i3)) hin9 rfl tb_1143 dX2_init_17 (fun H locs hO hS => ?_)
  have h := h _ rfl
  refine lv_aload_n C0.1 C0.2.1 dX2_init_20 rfl (lv_at hl 0 rfl) ?_
  refine lv_iload_n C0.1 C0.2.1 dX2_init_21 rfl (lv_at hl 1 rfl) ?_
  refine p2_0 C0 hO hS (sA_FR (new_old (n := 8) hna5 (sA_FR i3))) hin9 rfl tb_1140 dX2_init_22 (fun H locs hO hS => ?_)
  have h := h _ rfl
  exact e_V C0 Y hO hS h (by show _ ≤ 2; omega) (by show _ ≤ 32; omega) dX2_init_25
def wX2_init (S : Hp) (x0 : Nat) (x1 : Int32) (Φ : Hp → Prop) : Prop := wX2_init_b0 x0 x1 Φ S
set_option maxRecDepth 100000 in
theorem mX2_init {l : Launch} {G : Gw} {S : Hp} {x0 : Nat} {x1 : Int32} {Φ : Hp → Prop} (h : wX2_init S x0 x1 Φ) : gM l yX2_init cX2_init 2 none rm_X2_init [.ref x0, .int x1] G S (PV Φ) := by
  unfold gM
  refine Met.ofW (cc := cX2_init) (maxL := 2) (ret := none) (by decide) rfl ?_
  intro p e s m args below meth c s₁ B hml hv
  obtain ⟨rfl, hw⟩ := hv
  obtain ⟨C0, Y, hO⟩ := mx_of B hml hw
  have hS : va_S (Ab G.b) s.heap s.heap [] := va_S.rf
  have hin9 : meth.name = "<init>" := (name_of_methodNamed B.named B.method).1
  have hl := lv_entry ([.ref x0, .int x1]) (n := 2) (Nat.le_of_ble_eq_true rfl)
  rw [lg_entry_eq]
  generalize (lg_sl ([.ref x0, .int x1]) ++ List.replicate (2 - (lg_sl ([.ref x0, .int x1])).length) Slot.unset).toArray = ls at hl ⊢
  have hl : lv_has ls 2 [(0, .ref x0), (1, .int x1)] := hl
  exact bX2_init_b0 C0 Y hin9 S _ _ _ 0 0 h hO hS hl (by decide) (by decide)

def rm_X2_setPin : Room := { frames := 0, cells := 0, slots := 0, locals := 0 }
def wX2_setPin_b56 (x0 : Nat) (x1 : Int32) (x2 : Int32) (x3 : Int32) (Φ : Hp → Int32 → Prop) (S : Hp) (v5 : Int32) (z0 : Nat) (z1 : Int32) (z2 : Int32) : Prop := isA S z0 21 ∧ vp_in z1 (S.N z0) ∧ ∀ S3, S3 = S.setAI z0 z1.toNatClampNeg z2 → narrow .boolean (.int v5) = .int v5 ∧ Φ S3 v5
set_option maxHeartbeats 4000000 in
set_option maxRecDepth 100000 in
theorem bX2_setPin_b56 {p : Program} {l : Launch} {e : Env} {s : State} {m : MethodId} {args : Array Value} {below : List Frame} {meth : Method} {c : Code} {G : Gw} {x0 : Nat} {x1 : Int32} {x2 : Int32} {x3 : Int32} {Φ : Hp → Int32 → Prop} (C0 : Mx p s m c cX2_setPin 6 args yX2_setPin.cls G) (Y : My meth (some .boolean))  : ∀ (S : Hp) (v5 : Int32) (z0 : Nat) (z1 : Int32) (z2 : Int32) (H : Heap) (locs : List Loc) (ls : Array Slot), wX2_setPin_b56 x0 x1 x2 x3 Φ S v5 z0 z1 z2 → Ok G S H → va_S (Ab G.b) s.heap H locs → lv_has ls 6 [(0, .ref x0), (1, .int x1), (2, .int x2), (3, .int x3), (5, .int v5)] → W p l e rm_X2_setPin s m args below meth c H locs 0 0 (MQ below (gQ G (PI Φ)) args s rm_X2_setPin.cells rm_X2_setPin.slots (Ab G.b)) (F0 m 56 ls [.int z2, .int z1, .ref z0]) := by
  intro S v5 z0 z1 z2 H locs ls h hO hS hl
  unfold wX2_setPin_b56 at h
  obtain ⟨i1, h⟩ := h
  obtain ⟨e2, h⟩ := h
  refine r_iast C0 hO hS i1 e2 dX2_setPin_56 (fun H locs hO hS => ?_)
  have h := h _ rfl
  refine lv_iload C0.1 C0.2.1 dX2_setPin_57 (lv_at hl 4 rfl) ?_
  exact e_Z C0 Y hO hS h.1 h.2 (Nat.le_refl _) (Nat.le_refl _) dX2_setPin_59
def wX2_setPin_b22 (x0 : Nat) (x1 : Int32) (x2 : Int32) (x3 : Int32) (Φ : Hp → Int32 → Prop) (S : Hp) (v4 : Int32) (z0 : Int32) : Prop := isA S x0 2 ∧ ∃ a2, S.FR 129 x0 = some a2 ∧ ((x3 = 0 → ∃ a4, S.FR 129 x0 = some a4 ∧ isA S a4 21 ∧ vp_in x1 (S.N a4) ∧ wX2_setPin_b56 x0 x1 x2 x3 Φ S z0 a2 x1 ((S.AI a4 x1.toNatClampNeg) &&& (v4 ^^^ (-1)))) ∧ (¬ (x3 = 0) → ∃ a7, S.FR 129 x0 = some a7 ∧ isA S a7 21 ∧ vp_in x1 (S.N a7) ∧ wX2_setPin_b56 x0 x1 x2 x3 Φ S z0 a2 x1 ((S.AI a7 x1.toNatClampNeg) ||| v4)))
set_option maxHeartbeats 4000000 in
set_option maxRecDepth 100000 in
theorem bX2_setPin_b22 {p : Program} {l : Launch} {e : Env} {s : State} {m : MethodId} {args : Array Value} {below : List Frame} {meth : Method} {c : Code} {G : Gw} {x0 : Nat} {x1 : Int32} {x2 : Int32} {x3 : Int32} {Φ : Hp → Int32 → Prop} (C0 : Mx p s m c cX2_setPin 6 args yX2_setPin.cls G) (Y : My meth (some .boolean))  : ∀ (S : Hp) (v4 : Int32) (z0 : Int32) (H : Heap) (locs : List Loc) (ls : Array Slot), wX2_setPin_b22 x0 x1 x2 x3 Φ S v4 z0 → Ok G S H → va_S (Ab G.b) s.heap H locs → lv_has ls 6 [(0, .ref x0), (1, .int x1), (2, .int x2), (3, .int x3), (4, .int v4)] → W p l e rm_X2_setPin s m args below meth c H locs 0 0 (MQ below (gQ G (PI Φ)) args s rm_X2_setPin.cells rm_X2_setPin.slots (Ab G.b)) (F0 m 22 ls [.int z0]) := by
  intro S v4 z0 H locs ls h hO hS hl
  unfold wX2_setPin_b22 at h
  refine lv_istore C0.1 C0.2.1 dX2_setPin_22 hl (by decide) rfl (fun ls hl => ?_)
  refine lv_aload_n C0.1 C0.2.1 dX2_setPin_24 rfl (lv_at hl 1 rfl) ?_
  obtain ⟨i1, h⟩ := h
  obtain ⟨a2, ea2, h⟩ := h
  refine g2_1 C0 hO i1 ea2 tb_1142 dX2_setPin_25 ?_
  refine lv_iload_n C0.1 C0.2.1 dX2_setPin_28 rfl (lv_at hl 2 rfl) ?_
  refine lv_iload_n C0.1 C0.2.1 dX2_setPin_29 rfl (lv_at hl 4 rfl) ?_
  refine lv_if_eq (tgt := 45) C0.1 C0.2.1 dX2_setPin_30 (by decide) (fun c3 => ?_) (fun c3 => ?_)
  · have h := h.1 c3
    refine lv_aload_n C0.1 C0.2.1 dX2_setPin_45 rfl (lv_at hl 1 rfl) ?_
    obtain ⟨a4, ea4, h⟩ := h
    refine g2_1 C0 hO i1 ea4 tb_1142 dX2_setPin_46 ?_
    refine lv_iload_n C0.1 C0.2.1 dX2_setPin_49 rfl (lv_at hl 2 rfl) ?_
    obtain ⟨i5, h⟩ := h
    obtain ⟨e6, h⟩ := h
    refine r_iald C0 hO i5 e6 dX2_setPin_50 ?_
    refine lv_iload C0.1 C0.2.1 dX2_setPin_51 (lv_at hl 5 rfl) ?_
    refine lv_iconst (v := (-1)) C0.1 C0.2.1 dX2_setPin_53 (by decide) ?_
    refine lv_ixor C0.1 C0.2.1 dX2_setPin_54 ?_
    refine lv_iand C0.1 C0.2.1 dX2_setPin_55 ?_
    exact bX2_setPin_b56 C0 Y _ _ _ _ _ _ _ _ h hO hS (lv_sub hl [1, 2, 3, 4, 0] rfl)
  · have h := h.2 c3
    refine lv_aload_n C0.1 C0.2.1 dX2_setPin_33 rfl (lv_at hl 1 rfl) ?_
    obtain ⟨a7, ea7, h⟩ := h
    refine g2_1 C0 hO i1 ea7 tb_1142 dX2_setPin_34 ?_
    refine lv_iload_n C0.1 C0.2.1 dX2_setPin_37 rfl (lv_at hl 2 rfl) ?_
    obtain ⟨i8, h⟩ := h
    obtain ⟨e9, h⟩ := h
    refine r_iald C0 hO i8 e9 dX2_setPin_38 ?_
    refine lv_iload C0.1 C0.2.1 dX2_setPin_39 (lv_at hl 5 rfl) ?_
    refine lv_ior C0.1 C0.2.1 dX2_setPin_41 ?_
    refine lv_goto (tgt := 56) C0.1 C0.2.1 dX2_setPin_42 (by decide) ?_
    exact bX2_setPin_b56 C0 Y _ _ _ _ _ _ _ _ h hO hS (lv_sub hl [1, 2, 3, 4, 0] rfl)
def wX2_setPin_b0 (x0 : Nat) (x1 : Int32) (x2 : Int32) (x3 : Int32) (Φ : Hp → Int32 → Prop) (S : Hp) : Prop := isA S x0 2 ∧ ∃ a2, S.FR 129 x0 = some a2 ∧ isA S a2 21 ∧ vp_in x1 (S.N a2) ∧ ((((S.AI a2 x1.toNatClampNeg) &&& (1 <<< (x2 &&& 31))) = 0 → wX2_setPin_b22 x0 x1 x2 x3 Φ S (1 <<< (x2 &&& 31)) 0) ∧ (¬ (((S.AI a2 x1.toNatClampNeg) &&& (1 <<< (x2 &&& 31))) = 0) → wX2_setPin_b22 x0 x1 x2 x3 Φ S (1 <<< (x2 &&& 31)) 1))
set_option maxHeartbeats 4000000 in
set_option maxRecDepth 100000 in
theorem bX2_setPin_b0 {p : Program} {l : Launch} {e : Env} {s : State} {m : MethodId} {args : Array Value} {below : List Frame} {meth : Method} {c : Code} {G : Gw} {x0 : Nat} {x1 : Int32} {x2 : Int32} {x3 : Int32} {Φ : Hp → Int32 → Prop} (C0 : Mx p s m c cX2_setPin 6 args yX2_setPin.cls G) (Y : My meth (some .boolean))  : ∀ (S : Hp) (H : Heap) (locs : List Loc) (ls : Array Slot), wX2_setPin_b0 x0 x1 x2 x3 Φ S → Ok G S H → va_S (Ab G.b) s.heap H locs → lv_has ls 6 [(0, .ref x0), (1, .int x1), (2, .int x2), (3, .int x3)] → W p l e rm_X2_setPin s m args below meth c H locs 0 0 (MQ below (gQ G (PI Φ)) args s rm_X2_setPin.cells rm_X2_setPin.slots (Ab G.b)) (F0 m 0 ls []) := by
  intro S H locs ls h hO hS hl
  unfold wX2_setPin_b0 at h
  refine lv_iconst (v := 1) C0.1 C0.2.1 dX2_setPin_0 (by decide) ?_
  refine lv_iload_n C0.1 C0.2.1 dX2_setPin_1 rfl (lv_at hl 2 rfl) ?_
  refine lv_ishl C0.1 C0.2.1 dX2_setPin_2 ?_
  refine lv_istore C0.1 C0.2.1 dX2_setPin_3 hl (by decide) rfl (fun ls hl => ?_)
  refine lv_aload_n C0.1 C0.2.1 dX2_setPin_5 rfl (lv_at hl 1 rfl) ?_
  obtain ⟨i1, h⟩ := h
  obtain ⟨a2, ea2, h⟩ := h
  refine g2_1 C0 hO i1 ea2 tb_1142 dX2_setPin_6 ?_
  refine lv_iload_n C0.1 C0.2.1 dX2_setPin_9 rfl (lv_at hl 2 rfl) ?_
  obtain ⟨i3, h⟩ := h
  obtain ⟨e4, h⟩ := h
  refine r_iald C0 hO i3 e4 dX2_setPin_10 ?_
  refine lv_iload C0.1 C0.2.1 dX2_setPin_11 (lv_at hl 0 rfl) ?_
  refine lv_iand C0.1 C0.2.1 dX2_setPin_13 ?_
  refine lv_if_eq (tgt := 21) C0.1 C0.2.1 dX2_setPin_14 (by decide) (fun c5 => ?_) (fun c5 => ?_)
  · have h := h.1 c5
    refine lv_iconst (v := 0) C0.1 C0.2.1 dX2_setPin_21 (by decide) ?_
    exact bX2_setPin_b22 C0 Y _ _ _ _ _ _ h hO hS (lv_sub hl [1, 2, 3, 4, 0] rfl)
  · have h := h.2 c5
    refine lv_iconst (v := 1) C0.1 C0.2.1 dX2_setPin_17 (by decide) ?_
    refine lv_goto (tgt := 22) C0.1 C0.2.1 dX2_setPin_18 (by decide) ?_
    exact bX2_setPin_b22 C0 Y _ _ _ _ _ _ h hO hS (lv_sub hl [1, 2, 3, 4, 0] rfl)
def wX2_setPin (S : Hp) (x0 : Nat) (x1 : Int32) (x2 : Int32) (x3 : Int32) (Φ : Hp → Int32 → Prop) : Prop := wX2_setPin_b0 x0 x1 x2 x3 Φ S
set_option maxRecDepth 100000 in
theorem mX2_setPin {l : Launch} {G : Gw} {S : Hp} {x0 : Nat} {x1 : Int32} {x2 : Int32} {x3 : Int32} {Φ : Hp → Int32 → Prop} (h : wX2_setPin S x0 x1 x2 x3 Φ) : gM l yX2_setPin cX2_setPin 6 (some .boolean) rm_X2_setPin [.ref x0, .int x1, .int x2, .int x3] G S (PI Φ) := by
  unfold gM
  refine Met.ofW (cc := cX2_setPin) (maxL := 6) (ret := (some .boolean)) (by decide) rfl ?_
  intro p e s m args below meth c s₁ B hml hv
  obtain ⟨rfl, hw⟩ := hv
  obtain ⟨C0, Y, hO⟩ := mx_of B hml hw
  have hS : va_S (Ab G.b) s.heap s.heap [] := va_S.rf
  have hl := lv_entry ([.ref x0, .int x1, .int x2, .int x3]) (n := 6) (Nat.le_of_ble_eq_true rfl)
  rw [lg_entry_eq]
  generalize (lg_sl ([.ref x0, .int x1, .int x2, .int x3]) ++ List.replicate (6 - (lg_sl ([.ref x0, .int x1, .int x2, .int x3])).length) Slot.unset).toArray = ls at hl ⊢
  have hl : lv_has ls 6 [(0, .ref x0), (1, .int x1), (2, .int x2), (3, .int x3)] := hl
  exact bX2_setPin_b0 C0 Y S _ _ _ h hO hS hl

def rm_X2_strikePart : Room := { frames := 0, cells := 0, slots := 0, locals := 0 }
def wX2_strikePart_b31 (x0 : Nat) (x1 : Int32) (Φ : Hp → Prop) (k2 : Hp → Int32 → Prop) (S : Hp) (v2 : Int32) : Prop := k2 S (v2 + 1)
set_option maxHeartbeats 4000000 in
set_option maxRecDepth 100000 in
theorem bX2_strikePart_b31 {p : Program} {l : Launch} {e : Env} {s : State} {m : MethodId} {args : Array Value} {below : List Frame} {meth : Method} {c : Code} {G : Gw} {x0 : Nat} {x1 : Int32} {Φ : Hp → Prop} (C0 : Mx p s m c cX2_strikePart 3 args yX2_strikePart.cls G) (Y : My meth none) {k2 : Hp → Int32 → Prop} (hk2 : ∀ (S : Hp) (v2 : Int32) (H : Heap) (locs : List Loc) (ls : Array Slot), k2 S v2 → Ok G S H → va_S (Ab G.b) s.heap H locs → lv_has ls 3 [(0, .ref x0), (1, .int x1), (2, .int v2)] → W p l e rm_X2_strikePart s m args below meth c H locs 0 0 (MQ below (gQ G (PV Φ)) args s rm_X2_strikePart.cells rm_X2_strikePart.slots (Ab G.b)) (F0 m 2 ls [])) : ∀ (S : Hp) (v2 : Int32) (H : Heap) (locs : List Loc) (ls : Array Slot), wX2_strikePart_b31 x0 x1 Φ k2 S v2 → Ok G S H → va_S (Ab G.b) s.heap H locs → lv_has ls 3 [(0, .ref x0), (1, .int x1), (2, .int v2)] → W p l e rm_X2_strikePart s m args below meth c H locs 0 0 (MQ below (gQ G (PV Φ)) args s rm_X2_strikePart.cells rm_X2_strikePart.slots (Ab G.b)) (F0 m 31 ls []) := by
  intro S v2 H locs ls h hO hS hl
  unfold wX2_strikePart_b31 at h
  refine lv_iinc (v := _ + 1) C0.1 C0.2.1 dX2_strikePart_31 hl (k := 2) rfl rfl (by decide) rfl (fun ls hl => ?_)
  refine lv_goto (tgt := 2) C0.1 C0.2.1 dX2_strikePart_34 (by decide) ?_
  exact hk2 _ _ _ _ _ h hO hS (lv_sub hl [1, 2, 0] rfl)
def wX2_strikePart_b2 (x0 : Nat) (x1 : Int32) (Φ : Hp → Prop) (k2 : Hp → Int32 → Prop) (S : Hp) (v2 : Int32) : Prop := ((8 ≤ v2 → Φ S) ∧ (¬ (8 ≤ v2) → isA S x0 2 ∧ ∃ a3, S.FR 129 x0 = some a3 ∧ isA S a3 21 ∧ vp_in x1 (S.N a3) ∧ ((((S.AI a3 x1.toNatClampNeg) &&& (1 <<< (v2 &&& 31))) = 0 → wX2_strikePart_b31 x0 x1 Φ k2 S v2) ∧ (¬ (((S.AI a3 x1.toNatClampNeg) &&& (1 <<< (v2 &&& 31))) = 0) → ∃ a7, S.FR 130 x0 = some a7 ∧ isA S a7 21 ∧ vp_in v2 (S.N a7) ∧ vp_in v2 (S.N a7) ∧ ∀ S11, S11 = S.setAI a7 v2.toNatClampNeg ((S.AI a7 v2.toNatClampNeg) + 1) → wX2_strikePart_b31 x0 x1 Φ k2 S11 v2))))
set_option maxHeartbeats 4000000 in
set_option maxRecDepth 100000 in
theorem bX2_strikePart_b2 {p : Program} {l : Launch} {e : Env} {s : State} {m : MethodId} {args : Array Value} {below : List Frame} {meth : Method} {c : Code} {G : Gw} {x0 : Nat} {x1 : Int32} {Φ : Hp → Prop} (C0 : Mx p s m c cX2_strikePart 3 args yX2_strikePart.cls G) (Y : My meth none) {k2 : Hp → Int32 → Prop} (hk2 : ∀ (S : Hp) (v2 : Int32) (H : Heap) (locs : List Loc) (ls : Array Slot), k2 S v2 → Ok G S H → va_S (Ab G.b) s.heap H locs → lv_has ls 3 [(0, .ref x0), (1, .int x1), (2, .int v2)] → W p l e rm_X2_strikePart s m args below meth c H locs 0 0 (MQ below (gQ G (PV Φ)) args s rm_X2_strikePart.cells rm_X2_strikePart.slots (Ab G.b)) (F0 m 2 ls [])) : ∀ (S : Hp) (v2 : Int32) (H : Heap) (locs : List Loc) (ls : Array Slot), wX2_strikePart_b2 x0 x1 Φ k2 S v2 → Ok G S H → va_S (Ab G.b) s.heap H locs → lv_has ls 3 [(0, .ref x0), (1, .int x1), (2, .int v2)] → W p l e rm_X2_strikePart s m args below meth c H locs 0 0 (MQ below (gQ G (PV Φ)) args s rm_X2_strikePart.cells rm_X2_strikePart.slots (Ab G.b)) (F0 m 2 ls []) := by
  intro S v2 H locs ls h hO hS hl
  unfold wX2_strikePart_b2 at h
  refine lv_iload_n C0.1 C0.2.1 dX2_strikePart_2 rfl (lv_at hl 2 rfl) ?_
  refine lv_bipush (v := 8) C0.1 C0.2.1 dX2_strikePart_3 (by decide) ?_
  refine lv_icmp_ge (tgt := 37) C0.1 C0.2.1 dX2_strikePart_5 (by decide) (fun c1 => ?_) (fun c1 => ?_)
  · have h := h.1 c1
    exact e_V C0 Y hO hS h (Nat.le_refl _) (Nat.le_refl _) dX2_strikePart_37
  · have h := h.2 c1
    refine lv_aload_n C0.1 C0.2.1 dX2_strikePart_8 rfl (lv_at hl 0 rfl) ?_
    obtain ⟨i2, h⟩ := h
    obtain ⟨a3, ea3, h⟩ := h
    refine g2_1 C0 hO i2 ea3 tb_1142 dX2_strikePart_9 ?_
    refine lv_iload_n C0.1 C0.2.1 dX2_strikePart_12 rfl (lv_at hl 1 rfl) ?_
    obtain ⟨i4, h⟩ := h
    obtain ⟨e5, h⟩ := h
    refine r_iald C0 hO i4 e5 dX2_strikePart_13 ?_
    refine lv_iconst (v := 1) C0.1 C0.2.1 dX2_strikePart_14 (by decide) ?_
    refine lv_iload_n C0.1 C0.2.1 dX2_strikePart_15 rfl (lv_at hl 2 rfl) ?_
    refine lv_ishl C0.1 C0.2.1 dX2_strikePart_16 ?_
    refine lv_iand C0.1 C0.2.1 dX2_strikePart_17 ?_
    refine lv_if_eq (tgt := 31) C0.1 C0.2.1 dX2_strikePart_18 (by decide) (fun c6 => ?_) (fun c6 => ?_)
    · have h := h.1 c6
      exact bX2_strikePart_b31 C0 Y hk2 _ _ _ _ _ h hO hS (lv_sub hl [0, 1, 2] rfl)
    · have h := h.2 c6
      refine lv_aload_n C0.1 C0.2.1 dX2_strikePart_21 rfl (lv_at hl 0 rfl) ?_
      obtain ⟨a7, ea7, h⟩ := h
      refine g2_2 C0 hO i2 ea7 tb_1143 dX2_strikePart_22 ?_
      refine lv_iload_n C0.1 C0.2.1 dX2_strikePart_25 rfl (lv_at hl 2 rfl) ?_
      refine lv_dup2_11 C0.1 C0.2.1 dX2_strikePart_26 rfl rfl ?_
      obtain ⟨i8, h⟩ := h
      obtain ⟨e9, h⟩ := h
      refine r_iald C0 hO i8 e9 dX2_strikePart_27 ?_
      refine lv_iconst (v := 1) C0.1 C0.2.1 dX2_strikePart_28 (by decide) ?_
      refine lv_iadd C0.1 C0.2.1 dX2_strikePart_29 ?_
      obtain ⟨e10, h⟩ := h
      refine r_iast C0 hO hS i8 e10 dX2_strikePart_30 (fun H locs hO hS => ?_)
      have h := h _ rfl
      exact bX2_strikePart_b31 C0 Y hk2 _ _ _ _ _ h hO hS (lv_sub hl [0, 1, 2] rfl)
set_option maxHeartbeats 4000000 in
set_option maxRecDepth 100000 in
theorem lX2_strikePart_b2 {p : Program} {l : Launch} {e : Env} {s : State} {m : MethodId} {args : Array Value} {below : List Frame} {meth : Method} {c : Code} {G : Gw} {x0 : Nat} {x1 : Int32} {Φ : Hp → Prop} (C0 : Mx p s m c cX2_strikePart 3 args yX2_strikePart.cls G) (Y : My meth none)  : ∀ n9 : Nat, ∀ (S : Hp) (v2 : Int32) (H : Heap) (locs : List Loc) (ls : Array Slot), it2 (wX2_strikePart_b2 x0 x1 Φ) n9 S v2 → Ok G S H → va_S (Ab G.b) s.heap H locs → lv_has ls 3 [(0, .ref x0), (1, .int x1), (2, .int v2)] → W p l e rm_X2_strikePart s m args below meth c H locs 0 0 (MQ below (gQ G (PV Φ)) args s rm_X2_strikePart.cells rm_X2_strikePart.slots (Ab G.b)) (F0 m 2 ls []) := by
  intro n9
  induction n9 with
  | zero => intro S v2 H locs ls h; exact (h : False).elim
  | succ n9 ih => intro S v2 H locs ls h hO hS hl; exact bX2_strikePart_b2 C0 Y ih S v2 H locs ls h hO hS hl
def wX2_strikePart_b0 (x0 : Nat) (x1 : Int32) (Φ : Hp → Prop) (S : Hp) : Prop := ∃ n, it2 (wX2_strikePart_b2 x0 x1 Φ) n S 0
set_option maxHeartbeats 4000000 in
set_option maxRecDepth 100000 in
theorem bX2_strikePart_b0 {p : Program} {l : Launch} {e : Env} {s : State} {m : MethodId} {args : Array Value} {below : List Frame} {meth : Method} {c : Code} {G : Gw} {x0 : Nat} {x1 : Int32} {Φ : Hp → Prop} (C0 : Mx p s m c cX2_strikePart 3 args yX2_strikePart.cls G) (Y : My meth none)  : ∀ (S : Hp) (H : Heap) (locs : List Loc) (ls : Array Slot), wX2_strikePart_b0 x0 x1 Φ S → Ok G S H → va_S (Ab G.b) s.heap H locs → lv_has ls 3 [(0, .ref x0), (1, .int x1)] → W p l e rm_X2_strikePart s m args below meth c H locs 0 0 (MQ below (gQ G (PV Φ)) args s rm_X2_strikePart.cells rm_X2_strikePart.slots (Ab G.b)) (F0 m 0 ls []) := by
  intro S H locs ls h hO hS hl
  unfold wX2_strikePart_b0 at h
  refine lv_iconst (v := 0) C0.1 C0.2.1 dX2_strikePart_0 (by decide) ?_
  refine lv_istore_n C0.1 C0.2.1 dX2_strikePart_1 rfl hl (by decide) rfl (fun ls hl => ?_)
  obtain ⟨n9, h⟩ := h
  exact lX2_strikePart_b2 C0 Y n9 _ _ _ _ _ h hO hS (lv_sub hl [1, 2, 0] rfl)
def wX2_strikePart (S : Hp) (x0 : Nat) (x1 : Int32) (Φ : Hp → Prop) : Prop := wX2_strikePart_b0 x0 x1 Φ S
set_option maxRecDepth 100000 in
theorem mX2_strikePart {l : Launch} {G : Gw} {S : Hp} {x0 : Nat} {x1 : Int32} {Φ : Hp → Prop} (h : wX2_strikePart S x0 x1 Φ) : gM l yX2_strikePart cX2_strikePart 3 none rm_X2_strikePart [.ref x0, .int x1] G S (PV Φ) := by
  unfold gM
  refine Met.ofW (cc := cX2_strikePart) (maxL := 3) (ret := none) (by decide) rfl ?_
  intro p e s m args below meth c s₁ B hml hv
  obtain ⟨rfl, hw⟩ := hv
  obtain ⟨C0, Y, hO⟩ := mx_of B hml hw
  have hS : va_S (Ab G.b) s.heap s.heap [] := va_S.rf
  have hl := lv_entry ([.ref x0, .int x1]) (n := 3) (Nat.le_of_ble_eq_true rfl)
  rw [lg_entry_eq]
  generalize (lg_sl ([.ref x0, .int x1]) ++ List.replicate (3 - (lg_sl ([.ref x0, .int x1])).length) Slot.unset).toArray = ls at hl ⊢
  have hl : lv_has ls 3 [(0, .ref x0), (1, .int x1)] := hl
  exact bX2_strikePart_b0 C0 Y S _ _ _ h hO hS hl

def rm_X2_pass : Room := { frames := 1, cells := 0, slots := 0, locals := 25 }
def wX2_pass_b26 (x0 : Nat) (x1 : Int64) (x3 : Int64) (Φ : Hp → Prop) (k26 : Hp → Int64 → Int64 → Int64 → Prop) (S : Hp) (v5 : Int64) (v7 : Int64) (v9 : Int64) : Prop := ((0 < (lg_cmp v9 v7) → Φ S) ∧ (¬ (0 < (lg_cmp v9 v7)) → wJ9_floorMod_f86c9 S (v5 + v9) 24 (fun S2 r3 => isA S2 x0 2 ∧ wX2_strikePart S2 x0 r3.toInt32 (fun S4 => k26 S4 v5 v7 (v9 + 1)))))
set_option maxHeartbeats 4000000 in
set_option maxRecDepth 100000 in
theorem bX2_pass_b26 {p : Program} {l : Launch} {e : Env} {s : State} {m : MethodId} {args : Array Value} {below : List Frame} {meth : Method} {c : Code} {G : Gw} {x0 : Nat} {x1 : Int64} {x3 : Int64} {Φ : Hp → Prop} (C0 : Mx p s m c cX2_pass 11 args yX2_pass.cls G) (Y : My meth none) {k26 : Hp → Int64 → Int64 → Int64 → Prop} (hk26 : ∀ (S : Hp) (v5 : Int64) (v7 : Int64) (v9 : Int64) (H : Heap) (locs : List Loc) (ls : Array Slot), k26 S v5 v7 v9 → Ok G S H → va_S (Ab G.b) s.heap H locs → lv_has ls 11 [(0, .ref x0), (1, .long x1), (3, .long x3), (5, .long v5), (7, .long v7), (9, .long v9)] → W p l e rm_X2_pass s m args below meth c H locs 0 0 (MQ below (gQ G (PV Φ)) args s rm_X2_pass.cells rm_X2_pass.slots (Ab G.b)) (F0 m 26 ls [])) : ∀ (S : Hp) (v5 : Int64) (v7 : Int64) (v9 : Int64) (H : Heap) (locs : List Loc) (ls : Array Slot), wX2_pass_b26 x0 x1 x3 Φ k26 S v5 v7 v9 → Ok G S H → va_S (Ab G.b) s.heap H locs → lv_has ls 11 [(0, .ref x0), (1, .long x1), (3, .long x3), (5, .long v5), (7, .long v7), (9, .long v9)] → W p l e rm_X2_pass s m args below meth c H locs 0 0 (MQ below (gQ G (PV Φ)) args s rm_X2_pass.cells rm_X2_pass.slots (Ab G.b)) (F0 m 26 ls []) := by
  intro S v5 v7 v9 H locs ls h hO hS hl
  unfold wX2_pass_b26 at h
  refine lv_lload C0.1 C0.2.1 dX2_pass_26 (lv_at hl 5 rfl) ?_
  refine lv_lload C0.1 C0.2.1 dX2_pass_28 (lv_at hl 4 rfl) ?_
  refine W.lcmp C0.1 C0.2.1 dX2_pass_30 ?_
  refine lv_if_gt (tgt := 59) C0.1 C0.2.1 dX2_pass_31 (by decide) (fun c1 => ?_) (fun c1 => ?_)
  · have h := h.1 c1
    exact e_V C0 Y hO hS h (Nat.le_refl _) (Nat.le_refl _) dX2_pass_59
  · have h := h.2 c1
    refine lv_aload_n C0.1 C0.2.1 dX2_pass_34 rfl (lv_at hl 0 rfl) ?_
    refine lv_lload C0.1 C0.2.1 dX2_pass_35 (lv_at hl 3 rfl) ?_
    refine lv_lload C0.1 C0.2.1 dX2_pass_37 (lv_at hl 5 rfl) ?_
    refine lv_ladd C0.1 C0.2.1 dX2_pass_39 ?_
    refine lv_ldc2 (v := 24) C0.1 C0.2.1 C0.2.2.2.1 (C0.2.2.2.2.1 _ tb_836) dX2_pass_40 ?_
    refine c_S C0 hO hS (mJ9_floorMod_f86c9 h) tb_837 tb_351 tb_94 tb_352 hd_J9_floorMod_f86c9 rfl ⟨⟨by decide, by decide⟩, by decide, by decide⟩ hl.1 rfl (Nat.le_of_ble_eq_true rfl) dX2_pass_43 (kJ (fun r3 S2 H locs h hO hS => ?_))
    refine lv_l2i C0.1 C0.2.1 dX2_pass_46 rfl ?_
    obtain ⟨i5, h⟩ := h
    refine c_V C0 hO hS (mX2_strikePart h) i5 (by decide) rfl rfl tb_838 tb_840 tb_23 tb_100 tb_842 hd_X2_strikePart rfl ⟨⟨by decide, by decide⟩, by decide, by decide⟩ hl.1 rfl (Nat.le_of_ble_eq_true rfl) dX2_pass_47 (kV (fun S4 H locs h hO hS => ?_))
    refine lv_lload C0.1 C0.2.1 dX2_pass_50 (lv_at hl 5 rfl) ?_
    refine lv_lconst (v := 1) C0.1 C0.2.1 dX2_pass_52 (by decide) ?_
    refine lv_ladd C0.1 C0.2.1 dX2_pass_53 ?_
    refine lv_lstore C0.1 C0.2.1 dX2_pass_54 hl (by decide) rfl (fun ls hl => ?_)
    refine lv_goto (tgt := 26) C0.1 C0.2.1 dX2_pass_56 (by decide) ?_
    exact hk26 _ _ _ _ _ _ _ h hO hS (lv_sub hl [1, 2, 3, 4, 5, 0] rfl)
set_option maxHeartbeats 4000000 in
set_option maxRecDepth 100000 in
theorem lX2_pass_b26 {p : Program} {l : Launch} {e : Env} {s : State} {m : MethodId} {args : Array Value} {below : List Frame} {meth : Method} {c : Code} {G : Gw} {x0 : Nat} {x1 : Int64} {x3 : Int64} {Φ : Hp → Prop} (C0 : Mx p s m c cX2_pass 11 args yX2_pass.cls G) (Y : My meth none)  : ∀ n9 : Nat, ∀ (S : Hp) (v5 : Int64) (v7 : Int64) (v9 : Int64) (H : Heap) (locs : List Loc) (ls : Array Slot), it4 (wX2_pass_b26 x0 x1 x3 Φ) n9 S v5 v7 v9 → Ok G S H → va_S (Ab G.b) s.heap H locs → lv_has ls 11 [(0, .ref x0), (1, .long x1), (3, .long x3), (5, .long v5), (7, .long v7), (9, .long v9)] → W p l e rm_X2_pass s m args below meth c H locs 0 0 (MQ below (gQ G (PV Φ)) args s rm_X2_pass.cells rm_X2_pass.slots (Ab G.b)) (F0 m 26 ls []) := by
  intro n9
  induction n9 with
  | zero => intro S v5 v7 v9 H locs ls h; exact (h : False).elim
  | succ n9 ih => intro S v5 v7 v9 H locs ls h hO hS hl; exact bX2_pass_b26 C0 Y ih S v5 v7 v9 H locs ls h hO hS hl
def wX2_pass_b0 (x0 : Nat) (x1 : Int64) (x3 : Int64) (Φ : Hp → Prop) (S : Hp) : Prop := ∃ n, it4 (wX2_pass_b26 x0 x1 x3 Φ) n S (if x3 < x1 then x3 else x1) (if 100000 < ((if x3 < x1 then x1 else x3) - (if x3 < x1 then x3 else x1)) then 100000 else ((if x3 < x1 then x1 else x3) - (if x3 < x1 then x3 else x1))) 1
set_option maxHeartbeats 4000000 in
set_option maxRecDepth 100000 in
theorem bX2_pass_b0 {p : Program} {l : Launch} {e : Env} {s : State} {m : MethodId} {args : Array Value} {below : List Frame} {meth : Method} {c : Code} {G : Gw} {x0 : Nat} {x1 : Int64} {x3 : Int64} {Φ : Hp → Prop} (C0 : Mx p s m c cX2_pass 11 args yX2_pass.cls G) (Y : My meth none)  : ∀ (S : Hp) (H : Heap) (locs : List Loc) (ls : Array Slot), wX2_pass_b0 x0 x1 x3 Φ S → Ok G S H → va_S (Ab G.b) s.heap H locs → lv_has ls 11 [(0, .ref x0), (1, .long x1), (3, .long x3)] → W p l e rm_X2_pass s m args below meth c H locs 0 0 (MQ below (gQ G (PV Φ)) args s rm_X2_pass.cells rm_X2_pass.slots (Ab G.b)) (F0 m 0 ls []) := by
  intro S H locs ls h hO hS hl
  unfold wX2_pass_b0 at h
  refine lv_lload_n C0.1 C0.2.1 dX2_pass_0 rfl (lv_at hl 1 rfl) ?_
  refine lv_lload_n C0.1 C0.2.1 dX2_pass_1 rfl (lv_at hl 2 rfl) ?_
  refine va_mmin_long C0.1 C0.2.1 (C0.2.2.1.trans hl.1.symm) C0.2.2.2.1 (C0.2.2.2.2.1 _ tb_829) (C0.2.2.2.2.1 _ tb_830) (C0.2.2.2.2.1 _ tb_94) (C0.2.2.2.2.1 _ tb_831) (Nat.le_of_ble_eq_true rfl) (Nat.le_of_ble_eq_true rfl) (by decide) (by decide) dX2_pass_2 ?_
  refine lv_lstore C0.1 C0.2.1 dX2_pass_5 hl (by decide) rfl (fun ls hl => ?_)
  refine lv_lload_n C0.1 C0.2.1 dX2_pass_7 rfl (lv_at hl 2 rfl) ?_
  refine lv_lload_n C0.1 C0.2.1 dX2_pass_8 rfl (lv_at hl 3 rfl) ?_
  refine va_mmax_long C0.1 C0.2.1 (C0.2.2.1.trans hl.1.symm) C0.2.2.2.1 (C0.2.2.2.2.1 _ tb_832) (C0.2.2.2.2.1 _ tb_833) (C0.2.2.2.2.1 _ tb_94) (C0.2.2.2.2.1 _ tb_834) (Nat.le_of_ble_eq_true rfl) (Nat.le_of_ble_eq_true rfl) (by decide) (by decide) dX2_pass_9 ?_
  refine lv_lload C0.1 C0.2.1 dX2_pass_12 (lv_at hl 0 rfl) ?_
  refine lv_lsub C0.1 C0.2.1 dX2_pass_14 ?_
  refine lv_ldc2 (v := 100000) C0.1 C0.2.1 C0.2.2.2.1 (C0.2.2.2.2.1 _ tb_835) dX2_pass_15 ?_
  refine va_mmin_long C0.1 C0.2.1 (C0.2.2.1.trans hl.1.symm) C0.2.2.2.1 (C0.2.2.2.2.1 _ tb_829) (C0.2.2.2.2.1 _ tb_830) (C0.2.2.2.2.1 _ tb_94) (C0.2.2.2.2.1 _ tb_831) (Nat.le_of_ble_eq_true rfl) (Nat.le_of_ble_eq_true rfl) (by decide) (by decide) dX2_pass_18 ?_
  refine lv_lstore C0.1 C0.2.1 dX2_pass_21 hl (by decide) rfl (fun ls hl => ?_)
  refine lv_lconst (v := 1) C0.1 C0.2.1 dX2_pass_23 (by decide) ?_
  refine lv_lstore C0.1 C0.2.1 dX2_pass_24 hl (by decide) rfl (fun ls hl => ?_)
  obtain ⟨n9, h⟩ := h
  exact lX2_pass_b26 C0 Y n9 _ _ _ _ _ _ _ h hO hS (lv_sub hl [3, 4, 5, 2, 1, 0] rfl)
def wX2_pass (S : Hp) (x0 : Nat) (x1 : Int64) (x3 : Int64) (Φ : Hp → Prop) : Prop := wX2_pass_b0 x0 x1 x3 Φ S
set_option maxRecDepth 100000 in
theorem mX2_pass {l : Launch} {G : Gw} {S : Hp} {x0 : Nat} {x1 : Int64} {x3 : Int64} {Φ : Hp → Prop} (h : wX2_pass S x0 x1 x3 Φ) : gM l yX2_pass cX2_pass 11 none rm_X2_pass [.ref x0, .long x1, .long x3] G S (PV Φ) := by
  unfold gM
  refine Met.ofW (cc := cX2_pass) (maxL := 11) (ret := none) (by decide) rfl ?_
  intro p e s m args below meth c s₁ B hml hv
  obtain ⟨rfl, hw⟩ := hv
  obtain ⟨C0, Y, hO⟩ := mx_of B hml hw
  have hS : va_S (Ab G.b) s.heap s.heap [] := va_S.rf
  have hl := lv_entry ([.ref x0, .long x1, .long x3]) (n := 11) (Nat.le_of_ble_eq_true rfl)
  rw [lg_entry_eq]
  generalize (lg_sl ([.ref x0, .long x1, .long x3]) ++ List.replicate (11 - (lg_sl ([.ref x0, .long x1, .long x3])).length) Slot.unset).toArray = ls at hl ⊢
  have hl : lv_has ls 11 [(0, .ref x0), (1, .long x1), (3, .long x3)] := hl
  exact bX2_pass_b0 C0 Y S _ _ _ h hO hS hl
