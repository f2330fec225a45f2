def rm_Jxa1e45_init_da8c8 : Room := { frames := 1, cells := 0, slots := 0, locals := 12 }
def wJxa1e45_init_da8c8_b0 (x0 : Nat) (Φ : Hp → Prop) (S : Hp) : Prop := Φ S
set_option maxHeartbeats 4000000 in
set_option maxRecDepth 100000 in
theorem bJxa1e45_init_da8c8_b0 {p : Program} {l : Launch} {e : Env} {s : State} {m : MethodId} {args : Array Value} {below : List Frame} {meth : Method} {c : Code} {G : Gw} {x0 : Nat} {Φ : Hp → Prop} (C0 : Mx p s m c cJxa1e45_init_da8c8 1 args yJxa1e45_init_da8c8.cls G) (Y : My meth none) (hin9 : meth.name = "<init>")  : ∀ (S : Hp) (H : Heap) (locs : List Loc) (ls : Array Slot), wJxa1e45_init_da8c8_b0 x0 Φ S → Ok G S H → va_S (Ab G.b) s.heap H locs → lv_has ls 1 [(0, .ref x0)] → W p l e rm_Jxa1e45_init_da8c8 s m args below meth c H locs 0 0 (MQ below (gQ G (PV Φ)) args s rm_Jxa1e45_init_da8c8.cells rm_Jxa1e45_init_da8c8.slots (Ab G.b)) (F0 m 0 ls []) := by
  intro S H locs ls h hO hS hl
  unfold wJxa1e45_init_da8c8_b0 at h
  refine lv_aload_n C0.1 C0.2.1 dJxa1e45_init_da8c8_0 rfl (lv_at hl 0 rfl) ?_
  refine W.objInit C0.1 C0.2.1 C0.2.2.2.1 (C0.2.2.2.2.1 _ tb_71) (C0.2.2.2.2.1 _ tb_58) (C0.2.2.2.2.1 _ tb_59) rfl (hl.1.trans C0.2.2.1.symm) rfl dJxa1e45_init_da8c8_1 (Nat.le_of_ble_eq_true rfl) (Nat.le_of_ble_eq_true rfl) ?_
  refine W.eq (g2 := F0 _ 4 _ _) rfl ?_
  exact e_V C0 Y hO hS h (Nat.le_refl _) (Nat.le_refl _) dJxa1e45_init_da8c8_4
def wJxa1e45_init_da8c8 (S : Hp) (x0 : Nat) (Φ : Hp → Prop) : Prop := wJxa1e45_init_da8c8_b0 x0 Φ S
set_option maxRecDepth 100000 in
theorem mJxa1e45_init_da8c8 {l : Launch} {G : Gw} {S : Hp} {x0 : Nat} {Φ : Hp → Prop} (h : wJxa1e45_init_da8c8 S x0 Φ) : gM l yJxa1e45_init_da8c8 cJxa1e45_init_da8c8 1 none rm_Jxa1e45_init_da8c8 [.ref x0] G S (PV Φ) := by
  unfold gM
  refine Met.ofW (cc := cJxa1e45_init_da8c8) (maxL := 1) (ret := none) (by decide) rfl ?_
  intro p e s m args below meth c s₁ B hml hv
  obtain ⟨rfl, hw⟩ := hv
  obtain ⟨C0, Y, hO⟩ := mx_of B hml hw
  have hS : va_S (Ab G.b) s.heap s.heap [] := va_S.rf
  have hin9 : meth.name = "<init>" := (name_of_methodNamed B.named B.method).1
  have hl := lv_entry ([.ref x0]) (n := 1) (Nat.le_of_ble_eq_true rfl)
  rw [lg_entry_eq]
  generalize (lg_sl ([.ref x0]) ++ List.replicate (1 - (lg_sl ([.ref x0])).length) Slot.unset).toArray = ls at hl ⊢
  have hl : lv_has ls 1 [(0, .ref x0)] := hl
  exact bJxa1e45_init_da8c8_b0 C0 Y hin9 S _ _ _ h hO hS hl

def rm_Jxc12de_init_da8c8 : Room := { frames := 2, cells := 0, slots := 0, locals := 32 }
def wJxc12de_init_da8c8_b0 (x0 : Nat) (Φ : Hp → Prop) (S : Hp) : Prop := wJxa1e45_init_da8c8 S x0 (fun S1 => isA S1 x0 9 ∧ ∀ S3, S3 = S1.setFI 576 x0 0 → Φ S3)
set_option maxHeartbeats 4000000 in
set_option maxRecDepth 100000 in
theorem bJxc12de_init_da8c8_b0 {p : Program} {l : Launch} {e : Env} {s : State} {m : MethodId} {args : Array Value} {below : List Frame} {meth : Method} {c : Code} {G : Gw} {x0 : Nat} {Φ : Hp → Prop} (C0 : Mx p s m c cJxc12de_init_da8c8 1 args yJxc12de_init_da8c8.cls G) (Y : My meth none) (hin9 : meth.name = "<init>")  : ∀ (S : Hp) (H : Heap) (locs : List Loc) (ls : Array Slot), wJxc12de_init_da8c8_b0 x0 Φ S → Ok G S H → va_S (Ab G.b) s.heap H locs → lv_has ls 1 [(0, .ref x0)] → W p l e rm_Jxc12de_init_da8c8 s m args below meth c H locs 0 0 (MQ below (gQ G (PV Φ)) args s rm_Jxc12de_init_da8c8.cells rm_Jxc12de_init_da8c8.slots (Ab G.b)) (F0 m 0 ls []) := by
  intro S H locs ls h hO hS hl
  unfold wJxc12de_init_da8c8_b0 at h
  refine lv_aload_n C0.1 C0.2.1 dJxc12de_init_da8c8_0 rfl (lv_at hl 0 rfl) ?_
  refine c_I C0 hO hS (mJxa1e45_init_da8c8 h) tb_68 tb_69 tb_28 tb_70 rfl hd_Jxa1e45_init_da8c8 rfl ⟨⟨by decide, by decide⟩, by decide, by decide⟩ hl.1 rfl (Nat.le_of_ble_eq_true rfl) dJxc12de_init_da8c8_1 (kV (fun S1 H locs h hO hS => ?_))
  refine lv_aload_n C0.1 C0.2.1 dJxc12de_init_da8c8_4 rfl (lv_at hl 0 rfl) ?_
  refine lv_iconst (v := 0) C0.1 C0.2.1 dJxc12de_init_da8c8_5 (by decide) ?_
  obtain ⟨i2, h⟩ := h
  refine p9_0 C0 hO hS i2 tb_76 dJxc12de_init_da8c8_6 (fun H locs hO hS => ?_)
  have h := h _ rfl
  exact e_V C0 Y hO hS h (Nat.le_refl _) (Nat.le_refl _) dJxc12de_init_da8c8_9
def wJxc12de_init_da8c8 (S : Hp) (x0 : Nat) (Φ : Hp → Prop) : Prop := wJxc12de_init_da8c8_b0 x0 Φ S
set_option maxRecDepth 100000 in
theorem mJxc12de_init_da8c8 {l : Launch} {G : Gw} {S : Hp} {x0 : Nat} {Φ : Hp → Prop} (h : wJxc12de_init_da8c8 S x0 Φ) : gM l yJxc12de_init_da8c8 cJxc12de_init_da8c8 1 none rm_Jxc12de_init_da8c8 [.ref x0] G S (PV Φ) := by
  unfold gM
  refine Met.ofW (cc := cJxc12de_init_da8c8) (maxL := 1) (ret := none) (by decide) rfl ?_
  intro p e s m args below meth c s₁ B hml hv
  obtain ⟨rfl, hw⟩ := hv
  obtain ⟨C0, Y, hO⟩ := mx_of B hml hw
  have hS : va_S (Ab G.b) s.heap s.heap [] := va_S.rf
  have hin9 : meth.name = "<init>" := (name_of_methodNamed B.named B.method).1
  have hl := lv_entry ([.ref x0]) (n := 1) (Nat.le_of_ble_eq_true rfl)
  rw [lg_entry_eq]
  generalize (lg_sl ([.ref x0]) ++ List.replicate (1 - (lg_sl ([.ref x0])).length) Slot.unset).toArray = ls at hl ⊢
  have hl : lv_has ls 1 [(0, .ref x0)] := hl
  exact bJxc12de_init_da8c8_b0 C0 Y hin9 S _ _ _ h hO hS hl

def rm_Jx4a65c_init_da8c8 : Room := { frames := 3, cells := 0, slots := 0, locals := 52 }
def wJx4a65c_init_da8c8_b0 (x0 : Nat) (Φ : Hp → Prop) (S : Hp) : Prop := wJxc12de_init_da8c8 S x0 (fun S1 => isA S1 x0 9 ∧ ∀ S3, S3 = S1.setFR 577 x0 (some (S1.T 0)) → Φ S3)
set_option maxHeartbeats 4000000 in
set_option maxRecDepth 100000 in
theorem bJx4a65c_init_da8c8_b0 {p : Program} {l : Launch} {e : Env} {s : State} {m : MethodId} {args : Array Value} {below : List Frame} {meth : Method} {c : Code} {G : Gw} {x0 : Nat} {Φ : Hp → Prop} (C0 : Mx p s m c cJx4a65c_init_da8c8 1 args yJx4a65c_init_da8c8.cls G) (Y : My meth none) (hin9 : meth.name = "<init>")  : ∀ (S : Hp) (H : Heap) (locs : List Loc) (ls : Array Slot), wJx4a65c_init_da8c8_b0 x0 Φ S → Ok G S H → va_S (Ab G.b) s.heap H locs → lv_has ls 1 [(0, .ref x0)] → W p l e rm_Jx4a65c_init_da8c8 s m args below meth c H locs 0 0 (MQ below (gQ G (PV Φ)) args s rm_Jx4a65c_init_da8c8.cells rm_Jx4a65c_init_da8c8.slots (Ab G.b)) (F0 m 0 ls []) := by
  intro S H locs ls h hO hS hl
  unfold wJx4a65c_init_da8c8_b0 at h
  refine lv_aload_n C0.1 C0.2.1 dJx4a65c_init_da8c8_0 rfl (lv_at hl 0 rfl) ?_
  refine c_I C0 hO hS (mJxc12de_init_da8c8 h) tb_65 tb_66 tb_29 tb_67 rfl hd_Jxc12de_init_da8c8 rfl ⟨⟨by decide, by decide⟩, by decide, by decide⟩ hl.1 rfl (Nat.le_of_ble_eq_true rfl) dJx4a65c_init_da8c8_1 (kV (fun S1 H locs h hO hS => ?_))
  refine lv_aload_n C0.1 C0.2.1 dJx4a65c_init_da8c8_4 rfl (lv_at hl 0 rfl) ?_
  refine r_gets C0 hO hS tb_72 dJx4a65c_init_da8c8_5 ?_
  obtain ⟨i2, h⟩ := h
  refine p9_1 C0 hO hS i2 tb_74 dJx4a65c_init_da8c8_8 (fun H locs hO hS => ?_)
  have h := h _ rfl
  exact e_V C0 Y hO hS h (Nat.le_refl _) (Nat.le_refl _) dJx4a65c_init_da8c8_11
def wJx4a65c_init_da8c8 (S : Hp) (x0 : Nat) (Φ : Hp → Prop) : Prop := wJx4a65c_init_da8c8_b0 x0 Φ S
set_option maxRecDepth 100000 in
theorem mJx4a65c_init_da8c8 {l : Launch} {G : Gw} {S : Hp} {x0 : Nat} {Φ : Hp → Prop} (h : wJx4a65c_init_da8c8 S x0 Φ) : gM l yJx4a65c_init_da8c8 cJx4a65c_init_da8c8 1 none rm_Jx4a65c_init_da8c8 [.ref x0] G S (PV Φ) := by
  unfold gM
  refine Met.ofW (cc := cJx4a65c_init_da8c8) (maxL := 1) (ret := none) (by decide) rfl ?_
  intro p e s m args below meth c s₁ B hml hv
  obtain ⟨rfl, hw⟩ := hv
  obtain ⟨C0, Y, hO⟩ := mx_of B hml hw
  have hS : va_S (Ab G.b) s.heap s.heap [] := va_S.rf
  have hin9 : meth.name = "<init>" := (name_of_methodNamed B.named B.method).1
  have hl := lv_entry ([.ref x0]) (n := 1) (Nat.le_of_ble_eq_true rfl)
  rw [lg_entry_eq]
  generalize (lg_sl ([.ref x0]) ++ List.replicate (1 - (lg_sl ([.ref x0])).length) Slot.unset).toArray = ls at hl ⊢
  have hl : lv_has ls 1 [(0, .ref x0)] := hl
  exact bJx4a65c_init_da8c8_b0 C0 Y hin9 S _ _ _ h hO hS hl

def rm_J8_newLength_cabcc : Room := { frames := 1, cells := 0, slots := 0, locals := 16 }
def wJ8_newLength_cabcc_b21 (x0 : Int32) (x1 : Int32) (x2 : Int32) (Φ : Hp → Int32 → Prop) (S : Hp) : Prop := False
set_option maxHeartbeats 4000000 in
set_option maxRecDepth 100000 in
theorem bJ8_newLength_cabcc_b21 {p : Program} {l : Launch} {e : Env} {s : State} {m : MethodId} {args : Array Value} {below : List Frame} {meth : Method} {c : Code} {G : Gw} {x0 : Int32} {x1 : Int32} {x2 : Int32} {Φ : Hp → Int32 → Prop} (C0 : Mx p s m c cJ8_newLength_cabcc 4 args yJ8_newLength_cabcc.cls G) (Y : My meth (some .int))  : ∀ (S : Hp) (H : Heap) (locs : List Loc) (ls : Array Slot), wJ8_newLength_cabcc_b21 x0 x1 x2 Φ S → Ok G S H → va_S (Ab G.b) s.heap H locs → lv_has ls 4 [(0, .int x0), (1, .int x1), (2, .int x2)] → W p l e rm_J8_newLength_cabcc s m args below meth c H locs 0 0 (MQ below (gQ G (PI Φ)) args s rm_J8_newLength_cabcc.cells rm_J8_newLength_cabcc.slots (Ab G.b)) (F0 m 21 ls []) := by
  intro S H locs ls h hO hS hl
  unfold wJ8_newLength_cabcc_b21 at h
  refine lv_iload_n C0.1 C0.2.1 dJ8_newLength_cabcc_21 rfl (lv_at hl 0 rfl) ?_
  refine lv_iload_n C0.1 C0.2.1 dJ8_newLength_cabcc_22 rfl (lv_at hl 1 rfl) ?_
  exact h.elim
def wJ8_newLength_cabcc_b0 (x0 : Int32) (x1 : Int32) (x2 : Int32) (Φ : Hp → Int32 → Prop) (S : Hp) : Prop := (((x0 + (if x1 < x2 then x2 else x1)) ≤ 0 → wJ8_newLength_cabcc_b21 x0 x1 x2 Φ S) ∧ (¬ ((x0 + (if x1 < x2 then x2 else x1)) ≤ 0) → ((2147483639 < (x0 + (if x1 < x2 then x2 else x1)) → wJ8_newLength_cabcc_b21 x0 x1 x2 Φ S) ∧ (¬ (2147483639 < (x0 + (if x1 < x2 then x2 else x1))) → Φ S (x0 + (if x1 < x2 then x2 else x1))))))
set_option maxHeartbeats 4000000 in
set_option maxRecDepth 100000 in
theorem bJ8_newLength_cabcc_b0 {p : Program} {l : Launch} {e : Env} {s : State} {m : MethodId} {args : Array Value} {below : List Frame} {meth : Method} {c : Code} {G : Gw} {x0 : Int32} {x1 : Int32} {x2 : Int32} {Φ : Hp → Int32 → Prop} (C0 : Mx p s m c cJ8_newLength_cabcc 4 args yJ8_newLength_cabcc.cls G) (Y : My meth (some .int))  : ∀ (S : Hp) (H : Heap) (locs : List Loc) (ls : Array Slot), wJ8_newLength_cabcc_b0 x0 x1 x2 Φ S → Ok G S H → va_S (Ab G.b) s.heap H locs → lv_has ls 4 [(0, .int x0), (1, .int x1), (2, .int x2)] → W p l e rm_J8_newLength_cabcc s m args below meth c H locs 0 0 (MQ below (gQ G (PI Φ)) args s rm_J8_newLength_cabcc.cells rm_J8_newLength_cabcc.slots (Ab G.b)) (F0 m 0 ls []) := by
  intro S H locs ls h hO hS hl
  unfold wJ8_newLength_cabcc_b0 at h
  refine lv_iload_n C0.1 C0.2.1 dJ8_newLength_cabcc_0 rfl (lv_at hl 0 rfl) ?_
  refine lv_iload_n C0.1 C0.2.1 dJ8_newLength_cabcc_1 rfl (lv_at hl 1 rfl) ?_
  refine lv_iload_n C0.1 C0.2.1 dJ8_newLength_cabcc_2 rfl (lv_at hl 2 rfl) ?_
  refine va_mmax C0.1 C0.2.1 (C0.2.2.1.trans hl.1.symm) C0.2.2.2.1 (C0.2.2.2.2.1 _ tb_665) (C0.2.2.2.2.1 _ tb_449) (C0.2.2.2.2.1 _ tb_42) (C0.2.2.2.2.1 _ tb_450) (Nat.le_of_ble_eq_true rfl) (Nat.le_of_ble_eq_true rfl) (by decide) (by decide) dJ8_newLength_cabcc_3 ?_
  refine lv_iadd C0.1 C0.2.1 dJ8_newLength_cabcc_6 ?_
  refine lv_istore_n C0.1 C0.2.1 dJ8_newLength_cabcc_7 rfl hl (by decide) rfl (fun ls hl => ?_)
  refine lv_iconst (v := 0) C0.1 C0.2.1 dJ8_newLength_cabcc_8 (by decide) ?_
  refine lv_iload_n C0.1 C0.2.1 dJ8_newLength_cabcc_9 rfl (lv_at hl 0 rfl) ?_
  refine lv_icmp_ge (tgt := 21) C0.1 C0.2.1 dJ8_newLength_cabcc_10 (by decide) (fun c1 => ?_) (fun c1 => ?_)
  · have h := h.1 c1
    exact bJ8_newLength_cabcc_b21 C0 Y _ _ _ _ h hO hS (lv_sub hl [1, 2, 3] rfl)
  · have h := h.2 c1
    refine lv_iload_n C0.1 C0.2.1 dJ8_newLength_cabcc_13 rfl (lv_at hl 0 rfl) ?_
    refine lv_ldc (v := 2147483639) C0.1 C0.2.1 C0.2.2.2.1 (C0.2.2.2.2.1 _ tb_666) dJ8_newLength_cabcc_14 ?_
    refine lv_icmp_gt (tgt := 21) C0.1 C0.2.1 dJ8_newLength_cabcc_16 (by decide) (fun c2 => ?_) (fun c2 => ?_)
    · have h := h.1 c2
      exact bJ8_newLength_cabcc_b21 C0 Y _ _ _ _ h hO hS (lv_sub hl [1, 2, 3] rfl)
    · have h := h.2 c2
      refine lv_iload_n C0.1 C0.2.1 dJ8_newLength_cabcc_19 rfl (lv_at hl 0 rfl) ?_
      exact e_I C0 Y hO hS h (Nat.le_refl _) (Nat.le_refl _) dJ8_newLength_cabcc_20
def wJ8_newLength_cabcc (S : Hp) (x0 : Int32) (x1 : Int32) (x2 : Int32) (Φ : Hp → Int32 → Prop) : Prop := wJ8_newLength_cabcc_b0 x0 x1 x2 Φ S
set_option maxRecDepth 100000 in
theorem mJ8_newLength_cabcc {l : Launch} {G : Gw} {S : Hp} {x0 : Int32} {x1 : Int32} {x2 : Int32} {Φ : Hp → Int32 → Prop} (h : wJ8_newLength_cabcc S x0 x1 x2 Φ) : gM l yJ8_newLength_cabcc cJ8_newLength_cabcc 4 (some .int) rm_J8_newLength_cabcc [.int x0, .int x1, .int x2] G S (PI Φ) := by
  unfold gM
  refine Met.ofW (cc := cJ8_newLength_cabcc) (maxL := 4) (ret := (some .int)) (by decide) rfl ?_
  intro p e s m args below meth c s₁ B hml hv
  obtain ⟨rfl, hw⟩ := hv
  obtain ⟨C0, Y, hO⟩ := mx_of B hml hw
  have hS : va_S (Ab G.b) s.heap s.heap [] := va_S.rf
  have hl := lv_entry ([.int x0, .int x1, .int x2]) (n := 4) (Nat.le_of_ble_eq_true rfl)
  rw [lg_entry_eq]
  generalize (lg_sl ([.int x0, .int x1, .int x2]) ++ List.replicate (4 - (lg_sl ([.int x0, .int x1, .int x2])).length) Slot.unset).toArray = ls at hl ⊢
  have hl : lv_has ls 4 [(0, .int x0), (1, .int x1), (2, .int x2)] := hl
  exact bJ8_newLength_cabcc_b0 C0 Y S _ _ _ h hO hS hl

def rm_J7_copyOf_6403c : Room := { frames := 1, cells := 1, slots := 24, locals := 60 }
def wJ7_copyOf_6403c_b24 (x0 : Nat) (x1 : Int32) (x2 : Nat) (Φ : Hp → Option Nat → Prop) (S : Hp) (z0 : Nat) : Prop := isA S x0 25 ∧ isA S z0 25 ∧ ¬ (0 : Int32) < 0 ∧ ¬ (0 : Int32) < 0 ∧ ¬ (if x1 < (nI (S.N x0)) then x1 else (nI (S.N x0))) < 0 ∧ (0 : Int32).toNatClampNeg + (if x1 < (nI (S.N x0)) then x1 else (nI (S.N x0))).toNatClampNeg ≤ S.N x0 ∧ (0 : Int32).toNatClampNeg + (if x1 < (nI (S.N x0)) then x1 else (nI (S.N x0))).toNatClampNeg ≤ S.N z0 ∧ (∀ i, i < (if x1 < (nI (S.N x0)) then x1 else (nI (S.N x0))).toNatClampNeg → ∀ y, S.AR x0 ((0 : Int32).toNatClampNeg + i) = some y → isEl S y) ∧ ∀ S4, S4 = S.putAR z0 (va_cpy (S.AR x0) (S.AR z0) ((0 : Int32).toNatClampNeg) ((0 : Int32).toNatClampNeg) ((if x1 < (nI (S.N x0)) then x1 else (nI (S.N x0))).toNatClampNeg)) → Φ S4 (some z0)
set_option maxHeartbeats 4000000 in
set_option maxRecDepth 100000 in
theorem bJ7_copyOf_6403c_b24 {p : Program} {l : Launch} {e : Env} {s : State} {m : MethodId} {args : Array Value} {below : List Frame} {meth : Method} {c : Code} {G : Gw} {x0 : Nat} {x1 : Int32} {x2 : Nat} {Φ : Hp → Option Nat → Prop} (C0 : Mx p s m c cJ7_copyOf_6403c 4 args yJ7_copyOf_6403c.cls G) (Y : My meth (some (.array (.object "java/lang/Object"))))  : ∀ (S : Hp) (z0 : Nat) (H : Heap) (locs : List Loc) (ls : Array Slot) (cells slots : Nat), wJ7_copyOf_6403c_b24 x0 x1 x2 Φ S z0 → Ok G S H → va_S (Ab G.b) s.heap H locs → lv_has ls 4 [(0, .ref x0), (1, .int x1), (2, .ref x2)] → cells + (0) ≤ 1 → slots + (0) ≤ 24 → W p l e rm_J7_copyOf_6403c s m args below meth c H locs cells slots (MQ below (gQ G (PR Φ)) args s rm_J7_copyOf_6403c.cells rm_J7_copyOf_6403c.slots (Ab G.b)) (F0 m 24 ls [.ref z0]) := by
  intro S z0 H locs ls cells slots h hO hS hl hcc hss
  unfold wJ7_copyOf_6403c_b24 at h
  refine lv_astore_n C0.1 C0.2.1 dJ7_copyOf_6403c_24 rfl hl (by decide) rfl (fun ls hl => ?_)
  refine lv_aload_n C0.1 C0.2.1 dJ7_copyOf_6403c_25 rfl (lv_at hl 1 rfl) ?_
  refine lv_iconst (v := 0) C0.1 C0.2.1 dJ7_copyOf_6403c_26 (by decide) ?_
  refine lv_aload_n C0.1 C0.2.1 dJ7_copyOf_6403c_27 rfl (lv_at hl 0 rfl) ?_
  refine lv_iconst (v := 0) C0.1 C0.2.1 dJ7_copyOf_6403c_28 (by decide) ?_
  refine lv_aload_n C0.1 C0.2.1 dJ7_copyOf_6403c_29 rfl (lv_at hl 1 rfl) ?_
  obtain ⟨i1, h⟩ := h
  refine r_len (k := 25) (t := 5) C0 hO i1 (by decide) rfl dJ7_copyOf_6403c_30 ?_
  refine lv_iload_n C0.1 C0.2.1 dJ7_copyOf_6403c_31 rfl (lv_at hl 2 rfl) ?_
  refine va_mmin C0.1 C0.2.1 (C0.2.2.1.trans hl.1.symm) C0.2.2.2.1 (C0.2.2.2.2.1 _ tb_696) (C0.2.2.2.2.1 _ tb_332) (C0.2.2.2.2.1 _ tb_42) (C0.2.2.2.2.1 _ tb_333) (Nat.le_of_ble_eq_true rfl) (Nat.le_of_ble_eq_true rfl) (by show _ ≤ 1; omega) (by show _ ≤ 24; omega) dJ7_copyOf_6403c_32 ?_
  obtain ⟨i2, h⟩ := h
  obtain ⟨e3a, e3b, e3c, e3d, e3e, h⟩ := h
  obtain ⟨e3f, h⟩ := h
  refine r_copyo C0 hO hS i1 i2 hl.1 tb_697 tb_336 tb_335 tb_43 e3a e3b e3c e3d e3e e3f (Nat.le_of_ble_eq_true rfl) (Nat.le_of_ble_eq_true rfl) dJ7_copyOf_6403c_35 (fun H locs hO hS => ?_)
  have h := h _ rfl
  refine lv_aload_n C0.1 C0.2.1 dJ7_copyOf_6403c_38 rfl (lv_at hl 0 rfl) ?_
  exact e_R (v := some z0) C0 Y (Or.inr ⟨_, rfl⟩) hO hS h (by show _ ≤ 1; omega) (by show _ ≤ 24; omega) dJ7_copyOf_6403c_39
def wJ7_copyOf_6403c_b0 (x0 : Nat) (x1 : Int32) (x2 : Nat) (Φ : Hp → Option Nat → Prop) (S : Hp) : Prop := ((¬ some x2 = some (S.T 1) → False) ∧ (some x2 = some (S.T 1) → ¬ x1 < 0 ∧ x1.toNatClampNeg ≤ 24 ∧ ∀ a3 S4, a3 ∉ S.L → a3 ≠ S.T 0 → S4 = S.new a3 25 x1.toNatClampNeg → wJ7_copyOf_6403c_b24 x0 x1 x2 Φ S4 a3))
set_option maxHeartbeats 4000000 in
set_option maxRecDepth 100000 in
theorem bJ7_copyOf_6403c_b0 {p : Program} {l : Launch} {e : Env} {s : State} {m : MethodId} {args : Array Value} {below : List Frame} {meth : Method} {c : Code} {G : Gw} {x0 : Nat} {x1 : Int32} {x2 : Nat} {Φ : Hp → Option Nat → Prop} (C0 : Mx p s m c cJ7_copyOf_6403c 4 args yJ7_copyOf_6403c.cls G) (Y : My meth (some (.array (.object "java/lang/Object"))))  : ∀ (S : Hp) (H : Heap) (locs : List Loc) (ls : Array Slot) (cells slots : Nat), wJ7_copyOf_6403c_b0 x0 x1 x2 Φ S → Ok G S H → va_S (Ab G.b) s.heap H locs → lv_has ls 4 [(0, .ref x0), (1, .int x1), (2, .ref x2)] → cells + (1) ≤ 1 → slots + (24) ≤ 24 → W p l e rm_J7_copyOf_6403c s m args below meth c H locs cells slots (MQ below (gQ G (PR Φ)) args s rm_J7_copyOf_6403c.cells rm_J7_copyOf_6403c.slots (Ab G.b)) (F0 m 0 ls []) := by
  intro S H locs ls cells slots h hO hS hl hcc hss
  unfold wJ7_copyOf_6403c_b0 at h
  refine lv_aload_n C0.1 C0.2.1 dJ7_copyOf_6403c_0 rfl (lv_at hl 2 rfl) ?_
  refine r_ldcM C0 hO tb_693 dJ7_copyOf_6403c_1 ?_
  refine lv_acmp_ne (rx := some _) (ry := some _) (tgt := 13) C0.1 C0.2.1 dJ7_copyOf_6403c_3 (by decide) (fun c1 => ?_) (fun c1 => ?_)
  · have h := h.1 c1
    refine lv_aload_n C0.1 C0.2.1 dJ7_copyOf_6403c_13 rfl (lv_at hl 2 rfl) ?_
    exact h.elim
  · have h := h.2 c1
    refine lv_iload_n C0.1 C0.2.1 dJ7_copyOf_6403c_6 rfl (lv_at hl 1 rfl) ?_
    obtain ⟨e2, e2b, h⟩ := h
    refine n_25 C0 hO hS tb_695 e2 (Nat.le_trans e2b (by decide)) (by show _ ≤ 1; omega) (by show _ ≤ 24; omega) dJ7_copyOf_6403c_7 (fun a3 H hna3 hta3 hO hS => ?_)
    have h := h a3 _ hna3 hta3 rfl
    refine W.widen (k := _ + 1) (n := _ + 24) (Nat.le_refl _) (Nat.add_le_add_left e2b _) ?_
    refine lv_goto (tgt := 24) C0.1 C0.2.1 dJ7_copyOf_6403c_10 (by decide) ?_
    exact bJ7_copyOf_6403c_b24 C0 Y _ _ _ _ _ _ _ h hO hS (lv_sub hl [0, 1, 2] rfl) (by omega) (by omega)
def wJ7_copyOf_6403c (S : Hp) (x0 : Nat) (x1 : Int32) (x2 : Nat) (Φ : Hp → Option Nat → Prop) : Prop := wJ7_copyOf_6403c_b0 x0 x1 x2 Φ S
set_option maxRecDepth 100000 in
theorem mJ7_copyOf_6403c {l : Launch} {G : Gw} {S : Hp} {x0 : Nat} {x1 : Int32} {x2 : Nat} {Φ : Hp → Option Nat → Prop} (h : wJ7_copyOf_6403c S x0 x1 x2 Φ) : gM l yJ7_copyOf_6403c cJ7_copyOf_6403c 4 (some (.array (.object "java/lang/Object"))) rm_J7_copyOf_6403c [.ref x0, .int x1, .ref x2] G S (PR Φ) := by
  unfold gM
  refine Met.ofW (cc := cJ7_copyOf_6403c) (maxL := 4) (ret := (some (.array (.object "java/lang/Object")))) (by decide) rfl ?_
  intro p e s m args below meth c s₁ B hml hv
  obtain ⟨rfl, hw⟩ := hv
  obtain ⟨C0, Y, hO⟩ := mx_of B hml hw
  have hS : va_S (Ab G.b) s.heap s.heap [] := va_S.rf
  have hl := lv_entry ([.ref x0, .int x1, .ref x2]) (n := 4) (Nat.le_of_ble_eq_true rfl)
  rw [lg_entry_eq]
  generalize (lg_sl ([.ref x0, .int x1, .ref x2]) ++ List.replicate (4 - (lg_sl ([.ref x0, .int x1, .ref x2])).length) Slot.unset).toArray = ls at hl ⊢
  have hl : lv_has ls 4 [(0, .ref x0), (1, .int x1), (2, .ref x2)] := hl
  exact bJ7_copyOf_6403c_b0 C0 Y S _ _ _ 0 0 h hO hS hl (by decide) (by decide)

def rm_J7_copyOf_1904c : Room := { frames := 2, cells := 1, slots := 24, locals := 83 }
def wJ7_copyOf_1904c_b0 (x0 : Nat) (x1 : Int32) (Φ : Hp → Option Nat → Prop) (S : Hp) : Prop := isA S x0 25 ∧ wJ7_copyOf_6403c S x0 x1 (S.T 1) (fun S2 r3 => ∃ a4, r3 = some a4 ∧ Φ S2 (some a4))
set_option maxHeartbeats 4000000 in
set_option maxRecDepth 100000 in
theorem bJ7_copyOf_1904c_b0 {p : Program} {l : Launch} {e : Env} {s : State} {m : MethodId} {args : Array Value} {below : List Frame} {meth : Method} {c : Code} {G : Gw} {x0 : Nat} {x1 : Int32} {Φ : Hp → Option Nat → Prop} (C0 : Mx p s m c cJ7_copyOf_1904c 2 args yJ7_copyOf_1904c.cls G) (Y : My meth (some (.array (.object "java/lang/Object"))))  : ∀ (S : Hp) (H : Heap) (locs : List Loc) (ls : Array Slot) (cells slots : Nat), wJ7_copyOf_1904c_b0 x0 x1 Φ S → Ok G S H → va_S (Ab G.b) s.heap H locs → lv_has ls 2 [(0, .ref x0), (1, .int x1)] → cells + (1) ≤ 1 → slots + (24) ≤ 24 → W p l e rm_J7_copyOf_1904c s m args below meth c H locs cells slots (MQ below (gQ G (PR Φ)) args s rm_J7_copyOf_1904c.cells rm_J7_copyOf_1904c.slots (Ab G.b)) (F0 m 0 ls []) := by
  intro S H locs ls cells slots h hO hS hl hcc hss
  unfold wJ7_copyOf_1904c_b0 at h
  refine lv_aload_n C0.1 C0.2.1 dJ7_copyOf_1904c_0 rfl (lv_at hl 0 rfl) ?_
  refine lv_iload_n C0.1 C0.2.1 dJ7_copyOf_1904c_1 rfl (lv_at hl 1 rfl) ?_
  refine lv_aload_n C0.1 C0.2.1 dJ7_copyOf_1904c_2 rfl (lv_at hl 0 rfl) ?_
  obtain ⟨i1, h⟩ := h
  refine r_getC C0 hO i1 hl.1 tb_673 tb_886 tb_674 tb_689 (Nat.le_of_ble_eq_true rfl) (Nat.le_of_ble_eq_true rfl) dJ7_copyOf_1904c_3 ?_
  refine c_S C0 hO hS (mJ7_copyOf_6403c h) tb_690 tb_691 tb_32 tb_692 hd_J7_copyOf_6403c rfl ⟨⟨by decide, by decide⟩, by show _ + 1 ≤ 1; omega, by show _ + 24 ≤ 24; omega⟩ hl.1 rfl (Nat.le_of_ble_eq_true rfl) dJ7_copyOf_1904c_6 (kR (fun r3 S2 H locs h hO hS => ?_))
  change W _ _ _ _ _ _ _ _ _ _ _ _ (_ + 1) (_ + 24) _ _
  obtain ⟨a4, ea4, h⟩ := h
  subst ea4
  change W _ _ _ _ _ _ _ _ _ _ _ _ _ _ _ (F0 _ _ _ (.ref a4 :: _))
  exact e_R (v := some a4) C0 Y (Or.inr ⟨_, rfl⟩) hO hS h (by show _ ≤ 1; omega) (by show _ ≤ 24; omega) dJ7_copyOf_1904c_9
def wJ7_copyOf_1904c (S : Hp) (x0 : Nat) (x1 : Int32) (Φ : Hp → Option Nat → Prop) : Prop := wJ7_copyOf_1904c_b0 x0 x1 Φ S
set_option maxRecDepth 100000 in
theorem mJ7_copyOf_1904c {l : Launch} {G : Gw} {S : Hp} {x0 : Nat} {x1 : Int32} {Φ : Hp → Option Nat → Prop} (h : wJ7_copyOf_1904c S x0 x1 Φ) : gM l yJ7_copyOf_1904c cJ7_copyOf_1904c 2 (some (.array (.object "java/lang/Object"))) rm_J7_copyOf_1904c [.ref x0, .int x1] G S (PR Φ) := by
  unfold gM
  refine Met.ofW (cc := cJ7_copyOf_1904c) (maxL := 2) (ret := (some (.array (.object "java/lang/Object")))) (by decide) rfl ?_
  intro p e s m args below meth c s₁ B hml hv
  obtain ⟨rfl, hw⟩ := hv
  obtain ⟨C0, Y, hO⟩ := mx_of B hml hw
  have hS : va_S (Ab G.b) s.heap s.heap [] := va_S.rf
  have hl := lv_entry ([.ref x0, .int x1]) (n := 2) (Nat.le_of_ble_eq_true rfl)
  rw [lg_entry_eq]
  generalize (lg_sl ([.ref x0, .int x1]) ++ List.replicate (2 - (lg_sl ([.ref x0, .int x1])).length) Slot.unset).toArray = ls at hl ⊢
  have hl : lv_has ls 2 [(0, .ref x0), (1, .int x1)] := hl
  exact bJ7_copyOf_1904c_b0 C0 Y S _ _ _ 0 0 h hO hS hl (by decide) (by decide)

def rm_Jx4a65c_grow_92f84 : Room := { frames := 3, cells := 1, slots := 24, locals := 104 }
def wJx4a65c_grow_92f84_b20 (x0 : Nat) (x1 : Int32) (Φ : Hp → Option Nat → Prop) (S : Hp) (v2 : Int32) : Prop := wJ8_newLength_cabcc S v2 (x1 - v2) (v2 >>> (1 &&& 31)) (fun S1 r2 => isA S1 x0 9 ∧ ∃ a4, S1.FR 577 x0 = some a4 ∧ wJ7_copyOf_1904c S1 a4 r2 (fun S5 r6 => ∃ a7, r6 = some a7 ∧ isA S5 x0 9 ∧ ∀ S9, S9 = S5.setFR 577 x0 (some a7) → Φ S9 (some a7)))
set_option maxHeartbeats 4000000 in
set_option maxRecDepth 100000 in
theorem bJx4a65c_grow_92f84_b20 {p : Program} {l : Launch} {e : Env} {s : State} {m : MethodId} {args : Array Value} {below : List Frame} {meth : Method} {c : Code} {G : Gw} {x0 : Nat} {x1 : Int32} {Φ : Hp → Option Nat → Prop} (C0 : Mx p s m c cJx4a65c_grow_92f84 4 args yJx4a65c_grow_92f84.cls G) (Y : My meth (some (.array (.object "java/lang/Object"))))  : ∀ (S : Hp) (v2 : Int32) (H : Heap) (locs : List Loc) (ls : Array Slot) (cells slots : Nat), wJx4a65c_grow_92f84_b20 x0 x1 Φ S v2 → Ok G S H → va_S (Ab G.b) s.heap H locs → lv_has ls 4 [(0, .ref x0), (1, .int x1), (2, .int v2)] → cells + (1) ≤ 1 → slots + (24) ≤ 24 → W p l e rm_Jx4a65c_grow_92f84 s m args below meth c H locs cells slots (MQ below (gQ G (PR Φ)) args s rm_Jx4a65c_grow_92f84.cells rm_Jx4a65c_grow_92f84.slots (Ab G.b)) (F0 m 20 ls []) := by
  intro S v2 H locs ls cells slots h hO hS hl hcc hss
  unfold wJx4a65c_grow_92f84_b20 at h
  refine lv_iload_n C0.1 C0.2.1 dJx4a65c_grow_92f84_20 rfl (lv_at hl 2 rfl) ?_
  refine lv_iload_n C0.1 C0.2.1 dJx4a65c_grow_92f84_21 rfl (lv_at hl 1 rfl) ?_
  refine lv_iload_n C0.1 C0.2.1 dJx4a65c_grow_92f84_22 rfl (lv_at hl 2 rfl) ?_
  refine lv_isub C0.1 C0.2.1 dJx4a65c_grow_92f84_23 ?_
  refine lv_iload_n C0.1 C0.2.1 dJx4a65c_grow_92f84_24 rfl (lv_at hl 2 rfl) ?_
  refine lv_iconst (v := 1) C0.1 C0.2.1 dJx4a65c_grow_92f84_25 (by decide) ?_
  refine lv_ishr C0.1 C0.2.1 dJx4a65c_grow_92f84_26 ?_
  refine c_S C0 hO hS (mJ8_newLength_cabcc h) tb_662 tb_663 tb_49 tb_664 hd_J8_newLength_cabcc rfl ⟨⟨by decide, by decide⟩, by show _ + 0 ≤ 1; omega, by show _ + 0 ≤ 24; omega⟩ hl.1 rfl (Nat.le_of_ble_eq_true rfl) dJx4a65c_grow_92f84_27 (kI (fun r2 S1 H locs h hO hS => ?_))
  change W _ _ _ _ _ _ _ _ _ _ _ _ (_ + 0) (_ + 0) _ _
  refine lv_istore_n C0.1 C0.2.1 dJx4a65c_grow_92f84_30 rfl hl (by decide) rfl (fun ls hl => ?_)
  refine lv_aload_n C0.1 C0.2.1 dJx4a65c_grow_92f84_31 rfl (lv_at hl 1 rfl) ?_
  refine lv_aload_n C0.1 C0.2.1 dJx4a65c_grow_92f84_32 rfl (lv_at hl 1 rfl) ?_
  obtain ⟨i3, h⟩ := h
  obtain ⟨a4, ea4, h⟩ := h
  refine g9_1 C0 hO i3 ea4 tb_74 dJx4a65c_grow_92f84_33 ?_
  refine lv_iload_n C0.1 C0.2.1 dJx4a65c_grow_92f84_36 rfl (lv_at hl 0 rfl) ?_
  refine c_S C0 hO hS (mJ7_copyOf_1904c h) tb_670 tb_671 tb_32 tb_672 hd_J7_copyOf_1904c rfl ⟨⟨by decide, by decide⟩, by show _ + 1 ≤ 1; omega, by show _ + 24 ≤ 24; omega⟩ hl.1 rfl (Nat.le_of_ble_eq_true rfl) dJx4a65c_grow_92f84_37 (kR (fun r6 S5 H locs h hO hS => ?_))
  change W _ _ _ _ _ _ _ _ _ _ _ _ (_ + 1) (_ + 24) _ _
  obtain ⟨a7, ea7, h⟩ := h
  subst ea7
  change W _ _ _ _ _ _ _ _ _ _ _ _ _ _ _ (F0 _ _ _ (.ref a7 :: _))
  refine lv_dup_x1 C0.1 C0.2.1 dJx4a65c_grow_92f84_40 rfl rfl ?_
  obtain ⟨i8, h⟩ := h
  refine p9_1 C0 hO hS i8 tb_74 dJx4a65c_grow_92f84_41 (fun H locs hO hS => ?_)
  have h := h _ rfl
  exact e_R (v := some a7) C0 Y (Or.inr ⟨_, rfl⟩) hO hS h (by show _ ≤ 1; omega) (by show _ ≤ 24; omega) dJx4a65c_grow_92f84_44
def wJx4a65c_grow_92f84_b0 (x0 : Nat) (x1 : Int32) (Φ : Hp → Option Nat → Prop) (S : Hp) : Prop := isA S x0 9 ∧ ∃ a2, S.FR 577 x0 = some a2 ∧ (a2 = S.T 0 ∨ isA S a2 25) ∧ ((0 < (nI (lenT S a2)) → wJx4a65c_grow_92f84_b20 x0 x1 Φ S (nI (lenT S a2))) ∧ (¬ (0 < (nI (lenT S a2))) → ∃ a5, S.FR 577 x0 = some a5 ∧ ((some a5 = some (S.T 0) → ¬ (if 10 < x1 then x1 else 10) < 0 ∧ (if 10 < x1 then x1 else 10).toNatClampNeg ≤ 24 ∧ ∀ a8 S9, a8 ∉ S.L → a8 ≠ S.T 0 → S9 = S.new a8 25 (if 10 < x1 then x1 else 10).toNatClampNeg → ∀ S10, S10 = S9.setFR 577 x0 (some a8) → Φ S10 (some a8)) ∧ (¬ (some a5 = some (S.T 0)) → wJx4a65c_grow_92f84_b20 x0 x1 Φ S (nI (lenT S a2))))))
set_option maxHeartbeats 4000000 in
set_option maxRecDepth 100000 in
theorem bJx4a65c_grow_92f84_b0 {p : Program} {l : Launch} {e : Env} {s : State} {m : MethodId} {args : Array Value} {below : List Frame} {meth : Method} {c : Code} {G : Gw} {x0 : Nat} {x1 : Int32} {Φ : Hp → Option Nat → Prop} (C0 : Mx p s m c cJx4a65c_grow_92f84 4 args yJx4a65c_grow_92f84.cls G) (Y : My meth (some (.array (.object "java/lang/Object"))))  : ∀ (S : Hp) (H : Heap) (locs : List Loc) (ls : Array Slot) (cells slots : Nat), wJx4a65c_grow_92f84_b0 x0 x1 Φ S → Ok G S H → va_S (Ab G.b) s.heap H locs → lv_has ls 4 [(0, .ref x0), (1, .int x1)] → cells + (1) ≤ 1 → slots + (24) ≤ 24 → W p l e rm_Jx4a65c_grow_92f84 s m args below meth c H locs cells slots (MQ below (gQ G (PR Φ)) args s rm_Jx4a65c_grow_92f84.cells rm_Jx4a65c_grow_92f84.slots (Ab G.b)) (F0 m 0 ls []) := by
  intro S H locs ls cells slots h hO hS hl hcc hss
  unfold wJx4a65c_grow_92f84_b0 at h
  refine lv_aload_n C0.1 C0.2.1 dJx4a65c_grow_92f84_0 rfl (lv_at hl 0 rfl) ?_
  obtain ⟨i1, h⟩ := h
  obtain ⟨a2, ea2, h⟩ := h
  refine g9_1 C0 hO i1 ea2 tb_74 dJx4a65c_grow_92f84_1 ?_
  obtain ⟨e3, h⟩ := h
  refine r_lenT C0 hO hS e3 dJx4a65c_grow_92f84_4 ?_
  refine lv_istore_n C0.1 C0.2.1 dJx4a65c_grow_92f84_5 rfl hl (by decide) rfl (fun ls hl => ?_)
  refine lv_iload_n C0.1 C0.2.1 dJx4a65c_grow_92f84_6 rfl (lv_at hl 0 rfl) ?_
  refine lv_if_gt (tgt := 20) C0.1 C0.2.1 dJx4a65c_grow_92f84_7 (by decide) (fun c4 => ?_) (fun c4 => ?_)
  · have h := h.1 c4
    exact bJx4a65c_grow_92f84_b20 C0 Y _ _ _ _ _ _ _ h hO hS (lv_sub hl [1, 2, 0] rfl) (by omega) (by omega)
  · have h := h.2 c4
    refine lv_aload_n C0.1 C0.2.1 dJx4a65c_grow_92f84_10 rfl (lv_at hl 1 rfl) ?_
    obtain ⟨a5, ea5, h⟩ := h
    refine g9_1 C0 hO i1 ea5 tb_74 dJx4a65c_grow_92f84_11 ?_
    refine r_gets C0 hO hS tb_72 dJx4a65c_grow_92f84_14 ?_
    refine lv_acmp_eq (rx := some _) (ry := some _) (tgt := 45) C0.1 C0.2.1 dJx4a65c_grow_92f84_17 (by decide) (fun c6 => ?_) (fun c6 => ?_)
    · have h := h.1 c6
      refine lv_aload_n C0.1 C0.2.1 dJx4a65c_grow_92f84_45 rfl (lv_at hl 1 rfl) ?_
      refine lv_bipush (v := 10) C0.1 C0.2.1 dJx4a65c_grow_92f84_46 (by decide) ?_
      refine lv_iload_n C0.1 C0.2.1 dJx4a65c_grow_92f84_48 rfl (lv_at hl 2 rfl) ?_
      refine va_mmax C0.1 C0.2.1 (C0.2.2.1.trans hl.1.symm) C0.2.2.2.1 (C0.2.2.2.2.1 _ tb_698) (C0.2.2.2.2.1 _ tb_449) (C0.2.2.2.2.1 _ tb_42) (C0.2.2.2.2.1 _ tb_450) (Nat.le_of_ble_eq_true rfl) (Nat.le_of_ble_eq_true rfl) (by show _ ≤ 1; omega) (by show _ ≤ 24; omega) dJx4a65c_grow_92f84_49 ?_
      obtain ⟨e7, e7b, h⟩ := h
      refine n_25 C0 hO hS tb_699 e7 (Nat.le_trans e7b (by decide)) (by show _ ≤ 1; omega) (by show _ ≤ 24; omega) dJx4a65c_grow_92f84_52 (fun a8 H hna8 hta8 hO hS => ?_)
      have h := h a8 _ hna8 hta8 rfl
      refine W.widen (k := _ + 1) (n := _ + 24) (Nat.le_refl _) (Nat.add_le_add_left e7b _) ?_
      refine lv_dup_x1 C0.1 C0.2.1 dJx4a65c_grow_92f84_55 rfl rfl ?_
      refine p9_1 C0 hO hS (new_old (n := (if 10 < x1 then x1 else 10).toNatClampNeg) hna8 i1) tb_74 dJx4a65c_grow_92f84_56 (fun H locs hO hS => ?_)
      have h := h _ rfl
      exact e_R (v := some a8) C0 Y (Or.inr ⟨_, rfl⟩) hO hS h (by show _ ≤ 1; omega) (by show _ ≤ 24; omega) dJx4a65c_grow_92f84_59
    · have h := h.2 c6
      exact bJx4a65c_grow_92f84_b20 C0 Y _ _ _ _ _ _ _ h hO hS (lv_sub hl [1, 2, 0] rfl) (by omega) (by omega)
def wJx4a65c_grow_92f84 (S : Hp) (x0 : Nat) (x1 : Int32) (Φ : Hp → Option Nat → Prop) : Prop := wJx4a65c_grow_92f84_b0 x0 x1 Φ S
set_option maxRecDepth 100000 in
theorem mJx4a65c_grow_92f84 {l : Launch} {G : Gw} {S : Hp} {x0 : Nat} {x1 : Int32} {Φ : Hp → Option Nat → Prop} (h : wJx4a65c_grow_92f84 S x0 x1 Φ) : gM l yJx4a65c_grow_92f84 cJx4a65c_grow_92f84 4 (some (.array (.object "java/lang/Object"))) rm_Jx4a65c_grow_92f84 [.ref x0, .int x1] G S (PR Φ) := by
  unfold gM
  refine Met.ofW (cc := cJx4a65c_grow_92f84) (maxL := 4) (ret := (some (.array (.object "java/lang/Object")))) (by decide) rfl ?_
  intro p e s m args below meth c s₁ B hml hv
  obtain ⟨rfl, hw⟩ := hv
  obtain ⟨C0, Y, hO⟩ := mx_of B hml hw
  have hS : va_S (Ab G.b) s.heap s.heap [] := va_S.rf
  have hl := lv_entry ([.ref x0, .int x1]) (n := 4) (Nat.le_of_ble_eq_true rfl)
  rw [lg_entry_eq]
  generalize (lg_sl ([.ref x0, .int x1]) ++ List.replicate (4 - (lg_sl ([.ref x0, .int x1])).length) Slot.unset).toArray = ls at hl ⊢
  have hl : lv_has ls 4 [(0, .ref x0), (1, .int x1)] := hl
  exact bJx4a65c_grow_92f84_b0 C0 Y S _ _ _ 0 0 h hO hS hl (by decide) (by decide)

def rm_Jx4a65c_grow_d5877 : Room := { frames := 4, cells := 1, slots := 24, locals := 127 }
def wJx4a65c_grow_d5877_b0 (x0 : Nat) (Φ : Hp → Option Nat → Prop) (S : Hp) : Prop := isA S x0 9 ∧ wJx4a65c_grow_92f84 S x0 ((S.FI 578 x0) + 1) (fun S2 r3 => ∃ a4, r3 = some a4 ∧ Φ S2 (some a4))
set_option maxHeartbeats 4000000 in
set_option maxRecDepth 100000 in
theorem bJx4a65c_grow_d5877_b0 {p : Program} {l : Launch} {e : Env} {s : State} {m : MethodId} {args : Array Value} {below : List Frame} {meth : Method} {c : Code} {G : Gw} {x0 : Nat} {Φ : Hp → Option Nat → Prop} (C0 : Mx p s m c cJx4a65c_grow_d5877 1 args yJx4a65c_grow_d5877.cls G) (Y : My meth (some (.array (.object "java/lang/Object"))))  : ∀ (S : Hp) (H : Heap) (locs : List Loc) (ls : Array Slot) (cells slots : Nat), wJx4a65c_grow_d5877_b0 x0 Φ S → Ok G S H → va_S (Ab G.b) s.heap H locs → lv_has ls 1 [(0, .ref x0)] → cells + (1) ≤ 1 → slots + (24) ≤ 24 → W p l e rm_Jx4a65c_grow_d5877 s m args below meth c H locs cells slots (MQ below (gQ G (PR Φ)) args s rm_Jx4a65c_grow_d5877.cells rm_Jx4a65c_grow_d5877.slots (Ab G.b)) (F0 m 0 ls []) := by
  intro S H locs ls cells slots h hO hS hl hcc hss
  unfold wJx4a65c_grow_d5877_b0 at h
  refine lv_aload_n C0.1 C0.2.1 dJx4a65c_grow_d5877_0 rfl (lv_at hl 0 rfl) ?_
  refine lv_aload_n C0.1 C0.2.1 dJx4a65c_grow_d5877_1 rfl (lv_at hl 0 rfl) ?_
  obtain ⟨i1, h⟩ := h
  refine g9_2 C0 hO i1 tb_75 dJx4a65c_grow_d5877_2 ?_
  refine lv_iconst (v := 1) C0.1 C0.2.1 dJx4a65c_grow_d5877_5 (by decide) ?_
  refine lv_iadd C0.1 C0.2.1 dJx4a65c_grow_d5877_6 ?_
  refine c_V C0 hO hS (mJx4a65c_grow_92f84 h) i1 (by decide) rfl rfl tb_658 tb_660 tb_18 tb_30 tb_661 hd_Jx4a65c_grow_92f84 rfl ⟨⟨by decide, by decide⟩, by show _ + 1 ≤ 1; omega, by show _ + 24 ≤ 24; omega⟩ hl.1 rfl (Nat.le_of_ble_eq_true rfl) dJx4a65c_grow_d5877_7 (kR (fun r3 S2 H locs h hO hS => ?_))
  change W _ _ _ _ _ _ _ _ _ _ _ _ (_ + 1) (_ + 24) _ _
  obtain ⟨a4, ea4, h⟩ := h
  subst ea4
  change W _ _ _ _ _ _ _ _ _ _ _ _ _ _ _ (F0 _ _ _ (.ref a4 :: _))
  exact e_R (v := some a4) C0 Y (Or.inr ⟨_, rfl⟩) hO hS h (by show _ ≤ 1; omega) (by show _ ≤ 24; omega) dJx4a65c_grow_d5877_10
def wJx4a65c_grow_d5877 (S : Hp) (x0 : Nat) (Φ : Hp → Option Nat → Prop) : Prop := wJx4a65c_grow_d5877_b0 x0 Φ S
set_option maxRecDepth 100000 in
theorem mJx4a65c_grow_d5877 {l : Launch} {G : Gw} {S : Hp} {x0 : Nat} {Φ : Hp → Option Nat → Prop} (h : wJx4a65c_grow_d5877 S x0 Φ) : gM l yJx4a65c_grow_d5877 cJx4a65c_grow_d5877 1 (some (.array (.object "java/lang/Object"))) rm_Jx4a65c_grow_d5877 [.ref x0] G S (PR Φ) := by
  unfold gM
  refine Met.ofW (cc := cJx4a65c_grow_d5877) (maxL := 1) (ret := (some (.array (.object "java/lang/Object")))) (by decide) rfl ?_
  intro p e s m args below meth c s₁ B hml hv
  obtain ⟨rfl, hw⟩ := hv
  obtain ⟨C0, Y, hO⟩ := mx_of B hml hw
  have hS : va_S (Ab G.b) s.heap s.heap [] := va_S.rf
  have hl := lv_entry ([.ref x0]) (n := 1) (Nat.le_of_ble_eq_true rfl)
  rw [lg_entry_eq]
  generalize (lg_sl ([.ref x0]) ++ List.replicate (1 - (lg_sl ([.ref x0])).length) Slot.unset).toArray = ls at hl ⊢
  have hl : lv_has ls 1 [(0, .ref x0)] := hl
  exact bJx4a65c_grow_d5877_b0 C0 Y S _ _ _ 0 0 h hO hS hl (by decide) (by decide)

def rm_Jx4a65c_add_72be8 : Room := { frames := 5, cells := 1, slots := 24, locals := 147 }
def wJx4a65c_add_72be8_b11 (x0 : Nat) (x1 : Nat) (x3 : Int32) (Φ : Hp → Prop) (S : Hp) (v2 : Nat) : Prop := isA S v2 25 ∧ vp_in x3 (S.N v2) ∧ isEl S x1 ∧ ∀ S3, S3 = S.setAR v2 x3.toNatClampNeg (some x1) → isA S3 x0 9 ∧ ∀ S6, S6 = S3.setFI 578 x0 (x3 + 1) → Φ S6
set_option maxHeartbeats 4000000 in
set_option maxRecDepth 100000 in
theorem bJx4a65c_add_72be8_b11 {p : Program} {l : Launch} {e : Env} {s : State} {m : MethodId} {args : Array Value} {below : List Frame} {meth : Method} {c : Code} {G : Gw} {x0 : Nat} {x1 : Nat} {x3 : Int32} {Φ : Hp → Prop} (C0 : Mx p s m c cJx4a65c_add_72be8 4 args yJx4a65c_add_72be8.cls G) (Y : My meth none)  : ∀ (S : Hp) (v2 : Nat) (H : Heap) (locs : List Loc) (ls : Array Slot) (cells slots : Nat), wJx4a65c_add_72be8_b11 x0 x1 x3 Φ S v2 → Ok G S H → va_S (Ab G.b) s.heap H locs → lv_has ls 4 [(0, .ref x0), (1, .ref x1), (2, .ref v2), (3, .int x3)] → cells + (0) ≤ 1 → slots + (0) ≤ 24 → W p l e rm_Jx4a65c_add_72be8 s m args below meth c H locs cells slots (MQ below (gQ G (PV Φ)) args s rm_Jx4a65c_add_72be8.cells rm_Jx4a65c_add_72be8.slots (Ab G.b)) (F0 m 11 ls []) := by
  intro S v2 H locs ls cells slots h hO hS hl hcc hss
  unfold wJx4a65c_add_72be8_b11 at h
  refine lv_aload_n C0.1 C0.2.1 dJx4a65c_add_72be8_11 rfl (lv_at hl 2 rfl) ?_
  refine lv_iload_n C0.1 C0.2.1 dJx4a65c_add_72be8_12 rfl (lv_at hl 3 rfl) ?_
  refine lv_aload_n C0.1 C0.2.1 dJx4a65c_add_72be8_13 rfl (lv_at hl 1 rfl) ?_
  obtain ⟨i1, h⟩ := h
  obtain ⟨e2, h⟩ := h
  obtain ⟨e4, h⟩ := h
  refine r_oast C0 hO hS i1 e2 e4 dJx4a65c_add_72be8_14 (fun H locs hO hS => ?_)
  have h := h _ rfl
  refine lv_aload_n C0.1 C0.2.1 dJx4a65c_add_72be8_15 rfl (lv_at hl 0 rfl) ?_
  refine lv_iload_n C0.1 C0.2.1 dJx4a65c_add_72be8_16 rfl (lv_at hl 3 rfl) ?_
  refine lv_iconst (v := 1) C0.1 C0.2.1 dJx4a65c_add_72be8_17 (by decide) ?_
  refine lv_iadd C0.1 C0.2.1 dJx4a65c_add_72be8_18 ?_
  obtain ⟨i5, h⟩ := h
  refine p9_2 C0 hO hS i5 tb_75 dJx4a65c_add_72be8_19 (fun H locs hO hS => ?_)
  have h := h _ rfl
  exact e_V C0 Y hO hS h (by show _ ≤ 1; omega) (by show _ ≤ 24; omega) dJx4a65c_add_72be8_22
def wJx4a65c_add_72be8_b0 (x0 : Nat) (x1 : Nat) (x3 : Int32) (Φ : Hp → Prop) (S : Hp) (x2 : Nat) : Prop := (x2 = S.T 0 ∨ isA S x2 25) ∧ ((¬ x3 = (nI (lenT S x2)) → wJx4a65c_add_72be8_b11 x0 x1 x3 Φ S x2) ∧ (x3 = (nI (lenT S x2)) → isA S x0 9 ∧ wJx4a65c_grow_d5877 S x0 (fun S3 r4 => ∃ a6, r4 = some a6 ∧ wJx4a65c_add_72be8_b11 x0 x1 x3 Φ S3 a6)))
set_option maxHeartbeats 4000000 in
set_option maxRecDepth 100000 in
theorem bJx4a65c_add_72be8_b0 {p : Program} {l : Launch} {e : Env} {s : State} {m : MethodId} {args : Array Value} {below : List Frame} {meth : Method} {c : Code} {G : Gw} {x0 : Nat} {x1 : Nat} {x3 : Int32} {Φ : Hp → Prop} (C0 : Mx p s m c cJx4a65c_add_72be8 4 args yJx4a65c_add_72be8.cls G) (Y : My meth none)  : ∀ (S : Hp) (x2 : Nat) (H : Heap) (locs : List Loc) (ls : Array Slot) (cells slots : Nat), wJx4a65c_add_72be8_b0 x0 x1 x3 Φ S x2 → Ok G S H → va_S (Ab G.b) s.heap H locs → lv_has ls 4 [(0, .ref x0), (1, .ref x1), (2, .ref x2), (3, .int x3)] → cells + (1) ≤ 1 → slots + (24) ≤ 24 → W p l e rm_Jx4a65c_add_72be8 s m args below meth c H locs cells slots (MQ below (gQ G (PV Φ)) args s rm_Jx4a65c_add_72be8.cells rm_Jx4a65c_add_72be8.slots (Ab G.b)) (F0 m 0 ls []) := by
  intro S x2 H locs ls cells slots h hO hS hl hcc hss
  unfold wJx4a65c_add_72be8_b0 at h
  refine lv_iload_n C0.1 C0.2.1 dJx4a65c_add_72be8_0 rfl (lv_at hl 3 rfl) ?_
  refine lv_aload_n C0.1 C0.2.1 dJx4a65c_add_72be8_1 rfl (lv_at hl 2 rfl) ?_
  obtain ⟨e1, h⟩ := h
  refine r_lenT C0 hO hS e1 dJx4a65c_add_72be8_2 ?_
  refine lv_icmp_ne (tgt := 11) C0.1 C0.2.1 dJx4a65c_add_72be8_3 (by decide) (fun c2 => ?_) (fun c2 => ?_)
  · have h := h.1 c2
    exact bJx4a65c_add_72be8_b11 C0 Y _ _ _ _ _ _ _ h hO hS (lv_sub hl [0, 1, 2, 3] rfl) (by omega) (by omega)
  · have h := h.2 c2
    refine lv_aload_n C0.1 C0.2.1 dJx4a65c_add_72be8_6 rfl (lv_at hl 0 rfl) ?_
    obtain ⟨i5, h⟩ := h
    refine c_V C0 hO hS (mJx4a65c_grow_d5877 h) i5 (by decide) rfl rfl tb_654 tb_656 tb_17 tb_30 tb_657 hd_Jx4a65c_grow_d5877 rfl ⟨⟨by decide, by decide⟩, by show _ + 1 ≤ 1; omega, by show _ + 24 ≤ 24; omega⟩ hl.1 rfl (Nat.le_of_ble_eq_true rfl) dJx4a65c_add_72be8_7 (kR (fun r4 S3 H locs h hO hS => ?_))
    change W _ _ _ _ _ _ _ _ _ _ _ _ (_ + 1) (_ + 24) _ _
    obtain ⟨a6, ea6, h⟩ := h
    subst ea6
    change W _ _ _ _ _ _ _ _ _ _ _ _ _ _ _ (F0 _ _ _ (.ref a6 :: _))
    refine lv_astore_n C0.1 C0.2.1 dJx4a65c_add_72be8_10 rfl hl (by decide) rfl (fun ls hl => ?_)
    exact bJx4a65c_add_72be8_b11 C0 Y _ _ _ _ _ _ _ h hO hS (lv_sub hl [1, 2, 0, 3] rfl) (by omega) (by omega)
def wJx4a65c_add_72be8 (S : Hp) (x0 : Nat) (x1 : Nat) (x2 : Nat) (x3 : Int32) (Φ : Hp → Prop) : Prop := wJx4a65c_add_72be8_b0 x0 x1 x3 Φ S x2
set_option maxRecDepth 100000 in
theorem mJx4a65c_add_72be8 {l : Launch} {G : Gw} {S : Hp} {x0 : Nat} {x1 : Nat} {x2 : Nat} {x3 : Int32} {Φ : Hp → Prop} (h : wJx4a65c_add_72be8 S x0 x1 x2 x3 Φ) : gM l yJx4a65c_add_72be8 cJx4a65c_add_72be8 4 none rm_Jx4a65c_add_72be8 [.ref x0, .ref x1, .ref x2, .int x3] G S (PV Φ) := by
  unfold gM
  refine Met.ofW (cc := cJx4a65c_add_72be8) (maxL := 4) (ret := none) (by decide) rfl ?_
  intro p e s m args below meth c s₁ B hml hv
  obtain ⟨rfl, hw⟩ := hv
  obtain ⟨C0, Y, hO⟩ := mx_of B hml hw
  have hS : va_S (Ab G.b) s.heap s.heap [] := va_S.rf
  have hl := lv_entry ([.ref x0, .ref x1, .ref x2, .int x3]) (n := 4) (Nat.le_of_ble_eq_true rfl)
  rw [lg_entry_eq]
  generalize (lg_sl ([.ref x0, .ref x1, .ref x2, .int x3]) ++ List.replicate (4 - (lg_sl ([.ref x0, .ref x1, .ref x2, .int x3])).length) Slot.unset).toArray = ls at hl ⊢
  have hl : lv_has ls 4 [(0, .ref x0), (1, .ref x1), (2, .ref x2), (3, .int x3)] := hl
  exact bJx4a65c_add_72be8_b0 C0 Y S x2 _ _ _ 0 0 h hO hS hl (by decide) (by decide)

def rm_Jx4a65c_add_9ea2d : Room := { frames := 6, cells := 1, slots := 24, locals := 170 }
def wJx4a65c_add_9ea2d_b0 (x0 : Nat) (x1 : Nat) (Φ : Hp → Int32 → Prop) (S : Hp) : Prop := isA S x0 9 ∧ ∀ S2, S2 = S.setFI 576 x0 ((S.FI 576 x0) + 1) → ∃ a3, S2.FR 577 x0 = some a3 ∧ wJx4a65c_add_72be8 S2 x0 x1 a3 (S2.FI 578 x0) (fun S4 => Φ S4 1)
set_option maxHeartbeats 4000000 in
set_option maxRecDepth 100000 in
theorem bJx4a65c_add_9ea2d_b0 {p : Program} {l : Launch} {e : Env} {s : State} {m : MethodId} {args : Array Value} {below : List Frame} {meth : Method} {c : Code} {G : Gw} {x0 : Nat} {x1 : Nat} {Φ : Hp → Int32 → Prop} (C0 : Mx p s m c cJx4a65c_add_9ea2d 2 args yJx4a65c_add_9ea2d.cls G) (Y : My meth (some .boolean))  : ∀ (S : Hp) (H : Heap) (locs : List Loc) (ls : Array Slot) (cells slots : Nat), wJx4a65c_add_9ea2d_b0 x0 x1 Φ S → Ok G S H → va_S (Ab G.b) s.heap H locs → lv_has ls 2 [(0, .ref x0), (1, .ref x1)] → cells + (1) ≤ 1 → slots + (24) ≤ 24 → W p l e rm_Jx4a65c_add_9ea2d s m args below meth c H locs cells slots (MQ below (gQ G (PI Φ)) args s rm_Jx4a65c_add_9ea2d.cells rm_Jx4a65c_add_9ea2d.slots (Ab G.b)) (F0 m 0 ls []) := by
  intro S H locs ls cells slots h hO hS hl hcc hss
  unfold wJx4a65c_add_9ea2d_b0 at h
  refine lv_aload_n C0.1 C0.2.1 dJx4a65c_add_9ea2d_0 rfl (lv_at hl 0 rfl) ?_
  refine lv_dup C0.1 C0.2.1 dJx4a65c_add_9ea2d_1 rfl ?_
  obtain ⟨i1, h⟩ := h
  refine g9_0s C0 hO i1 tb_77 dJx4a65c_add_9ea2d_2 ?_
  refine lv_iconst (v := 1) C0.1 C0.2.1 dJx4a65c_add_9ea2d_5 (by decide) ?_
  refine lv_iadd C0.1 C0.2.1 dJx4a65c_add_9ea2d_6 ?_
  refine p9_0s C0 hO hS i1 tb_77 dJx4a65c_add_9ea2d_7 (fun H locs hO hS => ?_)
  have h := h _ rfl
  refine lv_aload_n C0.1 C0.2.1 dJx4a65c_add_9ea2d_10 rfl (lv_at hl 0 rfl) ?_
  refine lv_aload_n C0.1 C0.2.1 dJx4a65c_add_9ea2d_11 rfl (lv_at hl 1 rfl) ?_
  refine lv_aload_n C0.1 C0.2.1 dJx4a65c_add_9ea2d_12 rfl (lv_at hl 0 rfl) ?_
  obtain ⟨a3, ea3, h⟩ := h
  refine g9_1 C0 hO (sA_FI i1) ea3 tb_74 dJx4a65c_add_9ea2d_13 ?_
  refine lv_aload_n C0.1 C0.2.1 dJx4a65c_add_9ea2d_16 rfl (lv_at hl 0 rfl) ?_
  refine g9_2 C0 hO (sA_FI i1) tb_75 dJx4a65c_add_9ea2d_17 ?_
  refine c_V C0 hO hS (mJx4a65c_add_72be8 h) (sA_FI i1) (by decide) rfl rfl tb_650 tb_652 tb_16 tb_30 tb_653 hd_Jx4a65c_add_72be8 rfl ⟨⟨by decide, by decide⟩, by show _ + 1 ≤ 1; omega, by show _ + 24 ≤ 24; omega⟩ hl.1 rfl (Nat.le_of_ble_eq_true rfl) dJx4a65c_add_9ea2d_20 (kV (fun S4 H locs h hO hS => ?_))
  change W _ _ _ _ _ _ _ _ _ _ _ _ (_ + 1) (_ + 24) _ _
  refine lv_iconst (v := 1) C0.1 C0.2.1 dJx4a65c_add_9ea2d_23 (by decide) ?_
  exact e_Z C0 Y hO hS rfl h (by show _ ≤ 1; omega) (by show _ ≤ 24; omega) dJx4a65c_add_9ea2d_24
def wJx4a65c_add_9ea2d (S : Hp) (x0 : Nat) (x1 : Nat) (Φ : Hp → Int32 → Prop) : Prop := wJx4a65c_add_9ea2d_b0 x0 x1 Φ S
set_option maxRecDepth 100000 in
theorem mJx4a65c_add_9ea2d {l : Launch} {G : Gw} {S : Hp} {x0 : Nat} {x1 : Nat} {Φ : Hp → Int32 → Prop} (h : wJx4a65c_add_9ea2d S x0 x1 Φ) : gM l yJx4a65c_add_9ea2d cJx4a65c_add_9ea2d 2 (some .boolean) rm_Jx4a65c_add_9ea2d [.ref x0, .ref x1] G S (PI Φ) := by
  unfold gM
  refine Met.ofW (cc := cJx4a65c_add_9ea2d) (maxL := 2) (ret := (some .boolean)) (by decide) rfl ?_
  intro p e s m args below meth c s₁ B hml hv
  obtain ⟨rfl, hw⟩ := hv
  obtain ⟨C0, Y, hO⟩ := mx_of B hml hw
  have hS : va_S (Ab G.b) s.heap s.heap [] := va_S.rf
  have hl := lv_entry ([.ref x0, .ref x1]) (n := 2) (Nat.le_of_ble_eq_true rfl)
  rw [lg_entry_eq]
  generalize (lg_sl ([.ref x0, .ref x1]) ++ List.replicate (2 - (lg_sl ([.ref x0, .ref x1])).length) Slot.unset).toArray = ls at hl ⊢
  have hl : lv_has ls 2 [(0, .ref x0), (1, .ref x1)] := hl
  exact bJx4a65c_add_9ea2d_b0 C0 Y S _ _ _ 0 0 h hO hS hl (by decide) (by decide)

def rm_Jx4a65c_clear_da8c8 : Room := { frames := 0, cells := 0, slots := 0, locals := 0 }
def wJx4a65c_clear_da8c8_b27 (x0 : Nat) (Φ : Hp → Prop) (k27 : Hp → Nat → Int32 → Int32 → Prop) (S : Hp) (v1 : Nat) (v2 : Int32) (v3 : Int32) : Prop := ((v2 ≤ v3 → Φ S) ∧ (¬ (v2 ≤ v3) → isA S v1 25 ∧ vp_in v3 (S.N v1) ∧ ∀ S4, S4 = S.setAR v1 v3.toNatClampNeg none → k27 S4 v1 v2 (v3 + 1)))
set_option maxHeartbeats 4000000 in
set_option maxRecDepth 100000 in
theorem bJx4a65c_clear_da8c8_b27 {p : Program} {l : Launch} {e : Env} {s : State} {m : MethodId} {args : Array Value} {below : List Frame} {meth : Method} {c : Code} {G : Gw} {x0 : Nat} {Φ : Hp → Prop} (C0 : Mx p s m c cJx4a65c_clear_da8c8 4 args yJx4a65c_clear_da8c8.cls G) (Y : My meth none) {k27 : Hp → Nat → Int32 → Int32 → Prop} (hk27 : ∀ (S : Hp) (v1 : Nat) (v2 : Int32) (v3 : Int32) (H : Heap) (locs : List Loc) (ls : Array Slot), k27 S v1 v2 v3 → Ok G S H → va_S (Ab G.b) s.heap H locs → lv_has ls 4 [(0, .ref x0), (1, .ref v1), (2, .int v2), (3, .int v3)] → W p l e rm_Jx4a65c_clear_da8c8 s m args below meth c H locs 0 0 (MQ below (gQ G (PV Φ)) args s rm_Jx4a65c_clear_da8c8.cells rm_Jx4a65c_clear_da8c8.slots (Ab G.b)) (F0 m 27 ls [])) : ∀ (S : Hp) (v1 : Nat) (v2 : Int32) (v3 : Int32) (H : Heap) (locs : List Loc) (ls : Array Slot), wJx4a65c_clear_da8c8_b27 x0 Φ k27 S v1 v2 v3 → Ok G S H → va_S (Ab G.b) s.heap H locs → lv_has ls 4 [(0, .ref x0), (1, .ref v1), (2, .int v2), (3, .int v3)] → W p l e rm_Jx4a65c_clear_da8c8 s m args below meth c H locs 0 0 (MQ below (gQ G (PV Φ)) args s rm_Jx4a65c_clear_da8c8.cells rm_Jx4a65c_clear_da8c8.slots (Ab G.b)) (F0 m 27 ls []) := by
  intro S v1 v2 v3 H locs ls h hO hS hl
  unfold wJx4a65c_clear_da8c8_b27 at h
  refine lv_iload_n C0.1 C0.2.1 dJx4a65c_clear_da8c8_27 rfl (lv_at hl 3 rfl) ?_
  refine lv_iload_n C0.1 C0.2.1 dJx4a65c_clear_da8c8_28 rfl (lv_at hl 2 rfl) ?_
  refine lv_icmp_ge (tgt := 42) C0.1 C0.2.1 dJx4a65c_clear_da8c8_29 (by decide) (fun c1 => ?_) (fun c1 => ?_)
  · have h := h.1 c1
    exact e_V C0 Y hO hS h (Nat.le_refl _) (Nat.le_refl _) dJx4a65c_clear_da8c8_42
  · have h := h.2 c1
    refine lv_aload_n C0.1 C0.2.1 dJx4a65c_clear_da8c8_32 rfl (lv_at hl 1 rfl) ?_
    refine lv_iload_n C0.1 C0.2.1 dJx4a65c_clear_da8c8_33 rfl (lv_at hl 3 rfl) ?_
    refine lv_null C0.1 C0.2.1 dJx4a65c_clear_da8c8_34 ?_
    obtain ⟨i2, h⟩ := h
    obtain ⟨e3, h⟩ := h
    refine r_oastN C0 hO hS i2 e3 dJx4a65c_clear_da8c8_35 (fun H locs hO hS => ?_)
    have h := h _ rfl
    refine lv_iinc (v := _ + 1) C0.1 C0.2.1 dJx4a65c_clear_da8c8_36 hl (k := 3) rfl rfl (by decide) rfl (fun ls hl => ?_)
    refine lv_goto (tgt := 27) C0.1 C0.2.1 dJx4a65c_clear_da8c8_39 (by decide) ?_
    exact hk27 _ _ _ _ _ _ _ h hO hS (lv_sub hl [1, 2, 3, 0] rfl)
set_option maxHeartbeats 4000000 in
set_option maxRecDepth 100000 in
theorem lJx4a65c_clear_da8c8_b27 {p : Program} {l : Launch} {e : Env} {s : State} {m : MethodId} {args : Array Value} {below : List Frame} {meth : Method} {c : Code} {G : Gw} {x0 : Nat} {Φ : Hp → Prop} (C0 : Mx p s m c cJx4a65c_clear_da8c8 4 args yJx4a65c_clear_da8c8.cls G) (Y : My meth none)  : ∀ n9 : Nat, ∀ (S : Hp) (v1 : Nat) (v2 : Int32) (v3 : Int32) (H : Heap) (locs : List Loc) (ls : Array Slot), it4 (wJx4a65c_clear_da8c8_b27 x0 Φ) n9 S v1 v2 v3 → Ok G S H → va_S (Ab G.b) s.heap H locs → lv_has ls 4 [(0, .ref x0), (1, .ref v1), (2, .int v2), (3, .int v3)] → W p l e rm_Jx4a65c_clear_da8c8 s m args below meth c H locs 0 0 (MQ below (gQ G (PV Φ)) args s rm_Jx4a65c_clear_da8c8.cells rm_Jx4a65c_clear_da8c8.slots (Ab G.b)) (F0 m 27 ls []) := by
  intro n9
  induction n9 with
  | zero => intro S v1 v2 v3 H locs ls h; exact (h : False).elim
  | succ n9 ih => intro S v1 v2 v3 H locs ls h hO hS hl; exact bJx4a65c_clear_da8c8_b27 C0 Y ih S v1 v2 v3 H locs ls h hO hS hl
def wJx4a65c_clear_da8c8_b0 (x0 : Nat) (Φ : Hp → Prop) (S : Hp) : Prop := isA S x0 9 ∧ ∀ S2, S2 = S.setFI 576 x0 ((S.FI 576 x0) + 1) → ∃ a3, S2.FR 577 x0 = some a3 ∧ ∀ S4, S4 = S2.setFI 578 x0 0 → ∃ n, it4 (wJx4a65c_clear_da8c8_b27 x0 Φ) n S4 a3 (S2.FI 578 x0) 0
set_option maxHeartbeats 4000000 in
set_option maxRecDepth 100000 in
theorem bJx4a65c_clear_da8c8_b0 {p : Program} {l : Launch} {e : Env} {s : State} {m : MethodId} {args : Array Value} {below : List Frame} {meth : Method} {c : Code} {G : Gw} {x0 : Nat} {Φ : Hp → Prop} (C0 : Mx p s m c cJx4a65c_clear_da8c8 4 args yJx4a65c_clear_da8c8.cls G) (Y : My meth none)  : ∀ (S : Hp) (H : Heap) (locs : List Loc) (ls : Array Slot), wJx4a65c_clear_da8c8_b0 x0 Φ S → Ok G S H → va_S (Ab G.b) s.heap H locs → lv_has ls 4 [(0, .ref x0)] → W p l e rm_Jx4a65c_clear_da8c8 s m args below meth c H locs 0 0 (MQ below (gQ G (PV Φ)) args s rm_Jx4a65c_clear_da8c8.cells rm_Jx4a65c_clear_da8c8.slots (Ab G.b)) (F0 m 0 ls []) := by
  intro S H locs ls h hO hS hl
  unfold wJx4a65c_clear_da8c8_b0 at h
  refine lv_aload_n C0.1 C0.2.1 dJx4a65c_clear_da8c8_0 rfl (lv_at hl 0 rfl) ?_
  refine lv_dup C0.1 C0.2.1 dJx4a65c_clear_da8c8_1 rfl ?_
  obtain ⟨i1, h⟩ := h
  refine g9_0s C0 hO i1 tb_77 dJx4a65c_clear_da8c8_2 ?_
  refine lv_iconst (v := 1) C0.1 C0.2.1 dJx4a65c_clear_da8c8_5 (by decide) ?_
  refine lv_iadd C0.1 C0.2.1 dJx4a65c_clear_da8c8_6 ?_
  refine p9_0s C0 hO hS i1 tb_77 dJx4a65c_clear_da8c8_7 (fun H locs hO hS => ?_)
  have h := h _ rfl
  refine lv_aload_n C0.1 C0.2.1 dJx4a65c_clear_da8c8_10 rfl (lv_at hl 0 rfl) ?_
  obtain ⟨a3, ea3, h⟩ := h
  refine g9_1 C0 hO (sA_FI i1) ea3 tb_74 dJx4a65c_clear_da8c8_11 ?_
  refine lv_astore_n C0.1 C0.2.1 dJx4a65c_clear_da8c8_14 rfl hl (by decide) rfl (fun ls hl => ?_)
  refine lv_aload_n C0.1 C0.2.1 dJx4a65c_clear_da8c8_15 rfl (lv_at hl 1 rfl) ?_
  refine g9_2 C0 hO (sA_FI i1) tb_75 dJx4a65c_clear_da8c8_16 ?_
  refine lv_istore_n C0.1 C0.2.1 dJx4a65c_clear_da8c8_19 rfl hl (by decide) rfl (fun ls hl => ?_)
  refine lv_aload_n C0.1 C0.2.1 dJx4a65c_clear_da8c8_20 rfl (lv_at hl 2 rfl) ?_
  refine lv_iconst (v := 0) C0.1 C0.2.1 dJx4a65c_clear_da8c8_21 (by decide) ?_
  refine lv_dup_x1 C0.1 C0.2.1 dJx4a65c_clear_da8c8_22 rfl rfl ?_
  refine p9_2 C0 hO hS (sA_FI i1) tb_75 dJx4a65c_clear_da8c8_23 (fun H locs hO hS => ?_)
  have h := h _ rfl
  refine lv_istore_n C0.1 C0.2.1 dJx4a65c_clear_da8c8_26 rfl hl (by decide) rfl (fun ls hl => ?_)
  obtain ⟨n9, h⟩ := h
  exact lJx4a65c_clear_da8c8_b27 C0 Y n9 _ _ _ _ _ _ _ h hO hS (lv_sub hl [3, 2, 1, 0] rfl)
def wJx4a65c_clear_da8c8 (S : Hp) (x0 : Nat) (Φ : Hp → Prop) : Prop := wJx4a65c_clear_da8c8_b0 x0 Φ S
set_option maxRecDepth 100000 in
theorem mJx4a65c_clear_da8c8 {l : Launch} {G : Gw} {S : Hp} {x0 : Nat} {Φ : Hp → Prop} (h : wJx4a65c_clear_da8c8 S x0 Φ) : gM l yJx4a65c_clear_da8c8 cJx4a65c_clear_da8c8 4 none rm_Jx4a65c_clear_da8c8 [.ref x0] G S (PV Φ) := by
  unfold gM
  refine Met.ofW (cc := cJx4a65c_clear_da8c8) (maxL := 4) (ret := none) (by decide) rfl ?_
  intro p e s m args below meth c s₁ B hml hv
  obtain ⟨rfl, hw⟩ := hv
  obtain ⟨C0, Y, hO⟩ := mx_of B hml hw
  have hS : va_S (Ab G.b) s.heap s.heap [] := va_S.rf
  have hl := lv_entry ([.ref x0]) (n := 4) (Nat.le_of_ble_eq_true rfl)
  rw [lg_entry_eq]
  generalize (lg_sl ([.ref x0]) ++ List.replicate (4 - (lg_sl ([.ref x0])).length) Slot.unset).toArray = ls at hl ⊢
  have hl : lv_has ls 4 [(0, .ref x0)] := hl
  exact bJx4a65c_clear_da8c8_b0 C0 Y S _ _ _ h hO hS hl

def rm_Jx4a65c_elementData_915e3 : Room := { frames := 0, cells := 0, slots := 0, locals := 0 }
def wJx4a65c_elementData_915e3_b0 (x0 : Nat) (x1 : Int32) (Φ : Hp → Option Nat → Prop) (S : Hp) : Prop := isA S x0 9 ∧ ∃ a2, S.FR 577 x0 = some a2 ∧ isA S a2 25 ∧ vp_in x1 (S.N a2) ∧ ∃ a5, S.AR a2 x1.toNatClampNeg = some a5 ∧ Φ S (some a5)
set_option maxHeartbeats 4000000 in
set_option maxRecDepth 100000 in
theorem bJx4a65c_elementData_915e3_b0 {p : Program} {l : Launch} {e : Env} {s : State} {m : MethodId} {args : Array Value} {below : List Frame} {meth : Method} {c : Code} {G : Gw} {x0 : Nat} {x1 : Int32} {Φ : Hp → Option Nat → Prop} (C0 : Mx p s m c cJx4a65c_elementData_915e3 2 args yJx4a65c_elementData_915e3.cls G) (Y : My meth (some (.object "java/lang/Object")))  : ∀ (S : Hp) (H : Heap) (locs : List Loc) (ls : Array Slot), wJx4a65c_elementData_915e3_b0 x0 x1 Φ S → Ok G S H → va_S (Ab G.b) s.heap H locs → lv_has ls 2 [(0, .ref x0), (1, .int x1)] → W p l e rm_Jx4a65c_elementData_915e3 s m args below meth c H locs 0 0 (MQ below (gQ G (PR Φ)) args s rm_Jx4a65c_elementData_915e3.cells rm_Jx4a65c_elementData_915e3.slots (Ab G.b)) (F0 m 0 ls []) := by
  intro S H locs ls h hO hS hl
  unfold wJx4a65c_elementData_915e3_b0 at h
  refine lv_aload_n C0.1 C0.2.1 dJx4a65c_elementData_915e3_0 rfl (lv_at hl 0 rfl) ?_
  obtain ⟨i1, h⟩ := h
  obtain ⟨a2, ea2, h⟩ := h
  refine g9_1 C0 hO i1 ea2 tb_74 dJx4a65c_elementData_915e3_1 ?_
  refine lv_iload_n C0.1 C0.2.1 dJx4a65c_elementData_915e3_4 rfl (lv_at hl 1 rfl) ?_
  obtain ⟨i3, h⟩ := h
  obtain ⟨e4, a5, ea5, h⟩ := h
  refine r_oald C0 hO i3 e4 dJx4a65c_elementData_915e3_5 ?_
  rw [ea5]
  change W _ _ _ _ _ _ _ _ _ _ _ _ _ _ _ (F0 _ _ _ (.ref a5 :: _))
  exact e_R (v := some a5) C0 Y (Or.inl ⟨_, rfl⟩) hO hS h (Nat.le_refl _) (Nat.le_refl _) dJx4a65c_elementData_915e3_6
def wJx4a65c_elementData_915e3 (S : Hp) (x0 : Nat) (x1 : Int32) (Φ : Hp → Option Nat → Prop) : Prop := wJx4a65c_elementData_915e3_b0 x0 x1 Φ S
set_option maxRecDepth 100000 in
theorem mJx4a65c_elementData_915e3 {l : Launch} {G : Gw} {S : Hp} {x0 : Nat} {x1 : Int32} {Φ : Hp → Option Nat → Prop} (h : wJx4a65c_elementData_915e3 S x0 x1 Φ) : gM l yJx4a65c_elementData_915e3 cJx4a65c_elementData_915e3 2 (some (.object "java/lang/Object")) rm_Jx4a65c_elementData_915e3 [.ref x0, .int x1] G S (PR Φ) := by
  unfold gM
  refine Met.ofW (cc := cJx4a65c_elementData_915e3) (maxL := 2) (ret := (some (.object "java/lang/Object"))) (by decide) rfl ?_
  intro p e s m args below meth c s₁ B hml hv
  obtain ⟨rfl, hw⟩ := hv
  obtain ⟨C0, Y, hO⟩ := mx_of B hml hw
  have hS : va_S (Ab G.b) s.heap s.heap [] := va_S.rf
  have hl := lv_entry ([.ref x0, .int x1]) (n := 2) (Nat.le_of_ble_eq_true rfl)
  rw [lg_entry_eq]
  generalize (lg_sl ([.ref x0, .int x1]) ++ List.replicate (2 - (lg_sl ([.ref x0, .int x1])).length) Slot.unset).toArray = ls at hl ⊢
  have hl : lv_has ls 2 [(0, .ref x0), (1, .int x1)] := hl
  exact bJx4a65c_elementData_915e3_b0 C0 Y S _ _ _ h hO hS hl

def rm_J3_checkIndex_8e157 : Room := { frames := 0, cells := 0, slots := 0, locals := 0 }
def wJ3_checkIndex_8e157_b9 (x0 : Int32) (x1 : Int32) (Φ : Hp → Int32 → Prop) (S : Hp) : Prop := False
set_option maxHeartbeats 4000000 in
set_option maxRecDepth 100000 in
theorem bJ3_checkIndex_8e157_b9 {p : Program} {l : Launch} {e : Env} {s : State} {m : MethodId} {args : Array Value} {below : List Frame} {meth : Method} {c : Code} {G : Gw} {x0 : Int32} {x1 : Int32} {Φ : Hp → Int32 → Prop} (C0 : Mx p s m c cJ3_checkIndex_8e157 3 args yJ3_checkIndex_8e157.cls G) (Y : My meth (some .int))  : ∀ (S : Hp) (H : Heap) (locs : List Loc) (ls : Array Slot), wJ3_checkIndex_8e157_b9 x0 x1 Φ S → Ok G S H → va_S (Ab G.b) s.heap H locs → lv_has ls 3 [(0, .int x0), (1, .int x1), (2, .null)] → W p l e rm_J3_checkIndex_8e157 s m args below meth c H locs 0 0 (MQ below (gQ G (PI Φ)) args s rm_J3_checkIndex_8e157.cells rm_J3_checkIndex_8e157.slots (Ab G.b)) (F0 m 9 ls []) := by
  intro S H locs ls h hO hS hl
  unfold wJ3_checkIndex_8e157_b9 at h
  refine lv_aload_nN C0.1 C0.2.1 dJ3_checkIndex_8e157_9 rfl (lv_at hl 2 rfl) ?_
  refine lv_iload_n C0.1 C0.2.1 dJ3_checkIndex_8e157_10 rfl (lv_at hl 0 rfl) ?_
  refine lv_iload_n C0.1 C0.2.1 dJ3_checkIndex_8e157_11 rfl (lv_at hl 1 rfl) ?_
  exact h.elim
def wJ3_checkIndex_8e157_b0 (x0 : Int32) (x1 : Int32) (Φ : Hp → Int32 → Prop) (S : Hp) : Prop := ((x0 < 0 → wJ3_checkIndex_8e157_b9 x0 x1 Φ S) ∧ (¬ (x0 < 0) → ((x0 < x1 → Φ S x0) ∧ (¬ (x0 < x1) → wJ3_checkIndex_8e157_b9 x0 x1 Φ S))))
set_option maxHeartbeats 4000000 in
set_option maxRecDepth 100000 in
theorem bJ3_checkIndex_8e157_b0 {p : Program} {l : Launch} {e : Env} {s : State} {m : MethodId} {args : Array Value} {below : List Frame} {meth : Method} {c : Code} {G : Gw} {x0 : Int32} {x1 : Int32} {Φ : Hp → Int32 → Prop} (C0 : Mx p s m c cJ3_checkIndex_8e157 3 args yJ3_checkIndex_8e157.cls G) (Y : My meth (some .int))  : ∀ (S : Hp) (H : Heap) (locs : List Loc) (ls : Array Slot), wJ3_checkIndex_8e157_b0 x0 x1 Φ S → Ok G S H → va_S (Ab G.b) s.heap H locs → lv_has ls 3 [(0, .int x0), (1, .int x1), (2, .null)] → W p l e rm_J3_checkIndex_8e157 s m args below meth c H locs 0 0 (MQ below (gQ G (PI Φ)) args s rm_J3_checkIndex_8e157.cells rm_J3_checkIndex_8e157.slots (Ab G.b)) (F0 m 0 ls []) := by
  intro S H locs ls h hO hS hl
  unfold wJ3_checkIndex_8e157_b0 at h
  refine lv_iload_n C0.1 C0.2.1 dJ3_checkIndex_8e157_0 rfl (lv_at hl 0 rfl) ?_
  refine lv_if_lt (tgt := 9) C0.1 C0.2.1 dJ3_checkIndex_8e157_1 (by decide) (fun c1 => ?_) (fun c1 => ?_)
  · have h := h.1 c1
    exact bJ3_checkIndex_8e157_b9 C0 Y _ _ _ _ h hO hS (lv_sub hl [0, 1, 2] rfl)
  · have h := h.2 c1
    refine lv_iload_n C0.1 C0.2.1 dJ3_checkIndex_8e157_4 rfl (lv_at hl 0 rfl) ?_
    refine lv_iload_n C0.1 C0.2.1 dJ3_checkIndex_8e157_5 rfl (lv_at hl 1 rfl) ?_
    refine lv_icmp_lt (tgt := 16) C0.1 C0.2.1 dJ3_checkIndex_8e157_6 (by decide) (fun c2 => ?_) (fun c2 => ?_)
    · have h := h.1 c2
      refine lv_iload_n C0.1 C0.2.1 dJ3_checkIndex_8e157_16 rfl (lv_at hl 0 rfl) ?_
      exact e_I C0 Y hO hS h (Nat.le_refl _) (Nat.le_refl _) dJ3_checkIndex_8e157_17
    · have h := h.2 c2
      exact bJ3_checkIndex_8e157_b9 C0 Y _ _ _ _ h hO hS (lv_sub hl [0, 1, 2] rfl)
def wJ3_checkIndex_8e157 (S : Hp) (x0 : Int32) (x1 : Int32) (Φ : Hp → Int32 → Prop) : Prop := wJ3_checkIndex_8e157_b0 x0 x1 Φ S
set_option maxRecDepth 100000 in
theorem mJ3_checkIndex_8e157 {l : Launch} {G : Gw} {S : Hp} {x0 : Int32} {x1 : Int32} {Φ : Hp → Int32 → Prop} (h : wJ3_checkIndex_8e157 S x0 x1 Φ) : gM l yJ3_checkIndex_8e157 cJ3_checkIndex_8e157 3 (some .int) rm_J3_checkIndex_8e157 [.int x0, .int x1, .null] G S (PI Φ) := by
  unfold gM
  refine Met.ofW (cc := cJ3_checkIndex_8e157) (maxL := 3) (ret := (some .int)) (by decide) rfl ?_
  intro p e s m args below meth c s₁ B hml hv
  obtain ⟨rfl, hw⟩ := hv
  obtain ⟨C0, Y, hO⟩ := mx_of B hml hw
  have hS : va_S (Ab G.b) s.heap s.heap [] := va_S.rf
  have hl := lv_entry ([.int x0, .int x1, .null]) (n := 3) (Nat.le_of_ble_eq_true rfl)
  rw [lg_entry_eq]
  generalize (lg_sl ([.int x0, .int x1, .null]) ++ List.replicate (3 - (lg_sl ([.int x0, .int x1, .null])).length) Slot.unset).toArray = ls at hl ⊢
  have hl : lv_has ls 3 [(0, .int x0), (1, .int x1), (2, .null)] := hl
  exact bJ3_checkIndex_8e157_b0 C0 Y S _ _ _ h hO hS hl

def rm_J15_checkIndex_7cf53 : Room := { frames := 1, cells := 0, slots := 0, locals := 22 }
def wJ15_checkIndex_7cf53_b0 (x0 : Int32) (x1 : Int32) (Φ : Hp → Int32 → Prop) (S : Hp) : Prop := wJ3_checkIndex_8e157 S x0 x1 (fun S1 r2 => Φ S1 r2)
set_option maxHeartbeats 4000000 in
set_option maxRecDepth 100000 in
theorem bJ15_checkIndex_7cf53_b0 {p : Program} {l : Launch} {e : Env} {s : State} {m : MethodId} {args : Array Value} {below : List Frame} {meth : Method} {c : Code} {G : Gw} {x0 : Int32} {x1 : Int32} {Φ : Hp → Int32 → Prop} (C0 : Mx p s m c cJ15_checkIndex_7cf53 2 args yJ15_checkIndex_7cf53.cls G) (Y : My meth (some .int))  : ∀ (S : Hp) (H : Heap) (locs : List Loc) (ls : Array Slot), wJ15_checkIndex_7cf53_b0 x0 x1 Φ S → Ok G S H → va_S (Ab G.b) s.heap H locs → lv_has ls 2 [(0, .int x0), (1, .int x1)] → W p l e rm_J15_checkIndex_7cf53 s m args below meth c H locs 0 0 (MQ below (gQ G (PI Φ)) args s rm_J15_checkIndex_7cf53.cells rm_J15_checkIndex_7cf53.slots (Ab G.b)) (F0 m 0 ls []) := by
  intro S H locs ls h hO hS hl
  unfold wJ15_checkIndex_7cf53_b0 at h
  refine lv_iload_n C0.1 C0.2.1 dJ15_checkIndex_7cf53_0 rfl (lv_at hl 0 rfl) ?_
  refine lv_iload_n C0.1 C0.2.1 dJ15_checkIndex_7cf53_1 rfl (lv_at hl 1 rfl) ?_
  refine lv_null C0.1 C0.2.1 dJ15_checkIndex_7cf53_2 ?_
  refine c_S C0 hO hS (mJ3_checkIndex_8e157 h) tb_287 tb_288 tb_46 tb_289 hd_J3_checkIndex_8e157 rfl ⟨⟨by decide, by decide⟩, by decide, by decide⟩ hl.1 rfl (Nat.le_of_ble_eq_true rfl) dJ15_checkIndex_7cf53_3 (kI (fun r2 S1 H locs h hO hS => ?_))
  exact e_I C0 Y hO hS h (Nat.le_refl _) (Nat.le_refl _) dJ15_checkIndex_7cf53_6
def wJ15_checkIndex_7cf53 (S : Hp) (x0 : Int32) (x1 : Int32) (Φ : Hp → Int32 → Prop) : Prop := wJ15_checkIndex_7cf53_b0 x0 x1 Φ S
set_option maxRecDepth 100000 in
theorem mJ15_checkIndex_7cf53 {l : Launch} {G : Gw} {S : Hp} {x0 : Int32} {x1 : Int32} {Φ : Hp → Int32 → Prop} (h : wJ15_checkIndex_7cf53 S x0 x1 Φ) : gM l yJ15_checkIndex_7cf53 cJ15_checkIndex_7cf53 2 (some .int) rm_J15_checkIndex_7cf53 [.int x0, .int x1] G S (PI Φ) := by
  unfold gM
  refine Met.ofW (cc := cJ15_checkIndex_7cf53) (maxL := 2) (ret := (some .int)) (by decide) rfl ?_
  intro p e s m args below meth c s₁ B hml hv
  obtain ⟨rfl, hw⟩ := hv
  obtain ⟨C0, Y, hO⟩ := mx_of B hml hw
  have hS : va_S (Ab G.b) s.heap s.heap [] := va_S.rf
  have hl := lv_entry ([.int x0, .int x1]) (n := 2) (Nat.le_of_ble_eq_true rfl)
  rw [lg_entry_eq]
  generalize (lg_sl ([.int x0, .int x1]) ++ List.replicate (2 - (lg_sl ([.int x0, .int x1])).length) Slot.unset).toArray = ls at hl ⊢
  have hl : lv_has ls 2 [(0, .int x0), (1, .int x1)] := hl
  exact bJ15_checkIndex_7cf53_b0 C0 Y S _ _ _ h hO hS hl

def rm_Jx4a65c_get_915e3 : Room := { frames := 2, cells := 0, slots := 0, locals := 43 }
def wJx4a65c_get_915e3_b0 (x0 : Nat) (x1 : Int32) (Φ : Hp → Option Nat → Prop) (S : Hp) : Prop := isA S x0 9 ∧ wJ15_checkIndex_7cf53 S x1 (S.FI 578 x0) (fun S2 r3 => isA S2 x0 9 ∧ wJx4a65c_elementData_915e3 S2 x0 x1 (fun S4 r5 => ∃ a7, r5 = some a7 ∧ Φ S4 (some a7)))
set_option maxHeartbeats 4000000 in
set_option maxRecDepth 100000 in
theorem bJx4a65c_get_915e3_b0 {p : Program} {l : Launch} {e : Env} {s : State} {m : MethodId} {args : Array Value} {below : List Frame} {meth : Method} {c : Code} {G : Gw} {x0 : Nat} {x1 : Int32} {Φ : Hp → Option Nat → Prop} (C0 : Mx p s m c cJx4a65c_get_915e3 2 args yJx4a65c_get_915e3.cls G) (Y : My meth (some (.object "java/lang/Object")))  : ∀ (S : Hp) (H : Heap) (locs : List Loc) (ls : Array Slot), wJx4a65c_get_915e3_b0 x0 x1 Φ S → Ok G S H → va_S (Ab G.b) s.heap H locs → lv_has ls 2 [(0, .ref x0), (1, .int x1)] → W p l e rm_Jx4a65c_get_915e3 s m args below meth c H locs 0 0 (MQ below (gQ G (PR Φ)) args s rm_Jx4a65c_get_915e3.cells rm_Jx4a65c_get_915e3.slots (Ab G.b)) (F0 m 0 ls []) := by
  intro S H locs ls h hO hS hl
  unfold wJx4a65c_get_915e3_b0 at h
  refine lv_iload_n C0.1 C0.2.1 dJx4a65c_get_915e3_0 rfl (lv_at hl 1 rfl) ?_
  refine lv_aload_n C0.1 C0.2.1 dJx4a65c_get_915e3_1 rfl (lv_at hl 0 rfl) ?_
  obtain ⟨i1, h⟩ := h
  refine g9_2 C0 hO i1 tb_75 dJx4a65c_get_915e3_2 ?_
  refine c_S C0 hO hS (mJ15_checkIndex_7cf53 h) tb_284 tb_285 tb_45 tb_286 hd_J15_checkIndex_7cf53 rfl ⟨⟨by decide, by decide⟩, by decide, by decide⟩ hl.1 rfl (Nat.le_of_ble_eq_true rfl) dJx4a65c_get_915e3_5 (kI (fun r3 S2 H locs h hO hS => ?_))
  refine lv_pop C0.1 C0.2.1 dJx4a65c_get_915e3_8 rfl ?_
  refine lv_aload_n C0.1 C0.2.1 dJx4a65c_get_915e3_9 rfl (lv_at hl 0 rfl) ?_
  refine lv_iload_n C0.1 C0.2.1 dJx4a65c_get_915e3_10 rfl (lv_at hl 1 rfl) ?_
  obtain ⟨i6, h⟩ := h
  refine c_V C0 hO hS (mJx4a65c_elementData_915e3 h) i6 (by decide) rfl rfl tb_290 tb_291 tb_292 tb_30 tb_293 hd_Jx4a65c_elementData_915e3 rfl ⟨⟨by decide, by decide⟩, by decide, by decide⟩ hl.1 rfl (Nat.le_of_ble_eq_true rfl) dJx4a65c_get_915e3_11 (kR (fun r5 S4 H locs h hO hS => ?_))
  obtain ⟨a7, ea7, h⟩ := h
  subst ea7
  change W _ _ _ _ _ _ _ _ _ _ _ _ _ _ _ (F0 _ _ _ (.ref a7 :: _))
  exact e_R (v := some a7) C0 Y (Or.inl ⟨_, rfl⟩) hO hS h (Nat.le_refl _) (Nat.le_refl _) dJx4a65c_get_915e3_14
def wJx4a65c_get_915e3 (S : Hp) (x0 : Nat) (x1 : Int32) (Φ : Hp → Option Nat → Prop) : Prop := wJx4a65c_get_915e3_b0 x0 x1 Φ S
set_option maxRecDepth 100000 in
theorem mJx4a65c_get_915e3 {l : Launch} {G : Gw} {S : Hp} {x0 : Nat} {x1 : Int32} {Φ : Hp → Option Nat → Prop} (h : wJx4a65c_get_915e3 S x0 x1 Φ) : gM l yJx4a65c_get_915e3 cJx4a65c_get_915e3 2 (some (.object "java/lang/Object")) rm_Jx4a65c_get_915e3 [.ref x0, .int x1] G S (PR Φ) := by
  unfold gM
  refine Met.ofW (cc := cJx4a65c_get_915e3) (maxL := 2) (ret := (some (.object "java/lang/Object"))) (by decide) rfl ?_
  intro p e s m args below meth c s₁ B hml hv
  obtain ⟨rfl, hw⟩ := hv
  obtain ⟨C0, Y, hO⟩ := mx_of B hml hw
  have hS : va_S (Ab G.b) s.heap s.heap [] := va_S.rf
  have hl := lv_entry ([.ref x0, .int x1]) (n := 2) (Nat.le_of_ble_eq_true rfl)
  rw [lg_entry_eq]
  generalize (lg_sl ([.ref x0, .int x1]) ++ List.replicate (2 - (lg_sl ([.ref x0, .int x1])).length) Slot.unset).toArray = ls at hl ⊢
  have hl : lv_has ls 2 [(0, .ref x0), (1, .int x1)] := hl
  exact bJx4a65c_get_915e3_b0 C0 Y S _ _ _ h hO hS hl

def rm_Jx4a65c_size_8abf5 : Room := { frames := 0, cells := 0, slots := 0, locals := 0 }
def wJx4a65c_size_8abf5_b0 (x0 : Nat) (Φ : Hp → Int32 → Prop) (S : Hp) : Prop := isA S x0 9 ∧ Φ S (S.FI 578 x0)
set_option maxHeartbeats 4000000 in
set_option maxRecDepth 100000 in
theorem bJx4a65c_size_8abf5_b0 {p : Program} {l : Launch} {e : Env} {s : State} {m : MethodId} {args : Array Value} {below : List Frame} {meth : Method} {c : Code} {G : Gw} {x0 : Nat} {Φ : Hp → Int32 → Prop} (C0 : Mx p s m c cJx4a65c_size_8abf5 1 args yJx4a65c_size_8abf5.cls G) (Y : My meth (some .int))  : ∀ (S : Hp) (H : Heap) (locs : List Loc) (ls : Array Slot), wJx4a65c_size_8abf5_b0 x0 Φ S → Ok G S H → va_S (Ab G.b) s.heap H locs → lv_has ls 1 [(0, .ref x0)] → W p l e rm_Jx4a65c_size_8abf5 s m args below meth c H locs 0 0 (MQ below (gQ G (PI Φ)) args s rm_Jx4a65c_size_8abf5.cells rm_Jx4a65c_size_8abf5.slots (Ab G.b)) (F0 m 0 ls []) := by
  intro S H locs ls h hO hS hl
  unfold wJx4a65c_size_8abf5_b0 at h
  refine lv_aload_n C0.1 C0.2.1 dJx4a65c_size_8abf5_0 rfl (lv_at hl 0 rfl) ?_
  obtain ⟨i1, h⟩ := h
  refine g9_2 C0 hO i1 tb_75 dJx4a65c_size_8abf5_1 ?_
  exact e_I C0 Y hO hS h (Nat.le_refl _) (Nat.le_refl _) dJx4a65c_size_8abf5_4
def wJx4a65c_size_8abf5 (S : Hp) (x0 : Nat) (Φ : Hp → Int32 → Prop) : Prop := wJx4a65c_size_8abf5_b0 x0 Φ S
set_option maxRecDepth 100000 in
theorem mJx4a65c_size_8abf5 {l : Launch} {G : Gw} {S : Hp} {x0 : Nat} {Φ : Hp → Int32 → Prop} (h : wJx4a65c_size_8abf5 S x0 Φ) : gM l yJx4a65c_size_8abf5 cJx4a65c_size_8abf5 1 (some .int) rm_Jx4a65c_size_8abf5 [.ref x0] G S (PI Φ) := by
  unfold gM
  refine Met.ofW (cc := cJx4a65c_size_8abf5) (maxL := 1) (ret := (some .int)) (by decide) rfl ?_
  intro p e s m args below meth c s₁ B hml hv
  obtain ⟨rfl, hw⟩ := hv
  obtain ⟨C0, Y, hO⟩ := mx_of B hml hw
  have hS : va_S (Ab G.b) s.heap s.heap [] := va_S.rf
  have hl := lv_entry ([.ref x0]) (n := 1) (Nat.le_of_ble_eq_true rfl)
  rw [lg_entry_eq]
  generalize (lg_sl ([.ref x0]) ++ List.replicate (1 - (lg_sl ([.ref x0])).length) Slot.unset).toArray = ls at hl ⊢
  have hl : lv_has ls 1 [(0, .ref x0)] := hl
  exact bJx4a65c_size_8abf5_b0 C0 Y S _ _ _ h hO hS hl

def rm_J7_fill_53178 : Room := { frames := 0, cells := 0, slots := 0, locals := 0 }
def wJ7_fill_53178_b5 (x0 : Nat) (x1 : Int32) (Φ : Hp → Prop) (k5 : Hp → Int32 → Int32 → Prop) (S : Hp) (v2 : Int32) (v3 : Int32) : Prop := ((v3 ≤ v2 → Φ S) ∧ (¬ (v3 ≤ v2) → isA S x0 21 ∧ vp_in v2 (S.N x0) ∧ ∀ S4, S4 = S.setAI x0 v2.toNatClampNeg x1 → k5 S4 (v2 + 1) v3))
set_option maxHeartbeats 4000000 in
set_option maxRecDepth 100000 in
theorem bJ7_fill_53178_b5 {p : Program} {l : Launch} {e : Env} {s : State} {m : MethodId} {args : Array Value} {below : List Frame} {meth : Method} {c : Code} {G : Gw} {x0 : Nat} {x1 : Int32} {Φ : Hp → Prop} (C0 : Mx p s m c cJ7_fill_53178 4 args yJ7_fill_53178.cls G) (Y : My meth none) {k5 : Hp → Int32 → Int32 → Prop} (hk5 : ∀ (S : Hp) (v2 : Int32) (v3 : Int32) (H : Heap) (locs : List Loc) (ls : Array Slot), k5 S v2 v3 → Ok G S H → va_S (Ab G.b) s.heap H locs → lv_has ls 4 [(0, .ref x0), (1, .int x1), (2, .int v2), (3, .int v3)] → W p l e rm_J7_fill_53178 s m args below meth c H locs 0 0 (MQ below (gQ G (PV Φ)) args s rm_J7_fill_53178.cells rm_J7_fill_53178.slots (Ab G.b)) (F0 m 5 ls [])) : ∀ (S : Hp) (v2 : Int32) (v3 : Int32) (H : Heap) (locs : List Loc) (ls : Array Slot), wJ7_fill_53178_b5 x0 x1 Φ k5 S v2 v3 → Ok G S H → va_S (Ab G.b) s.heap H locs → lv_has ls 4 [(0, .ref x0), (1, .int x1), (2, .int v2), (3, .int v3)] → W p l e rm_J7_fill_53178 s m args below meth c H locs 0 0 (MQ below (gQ G (PV Φ)) args s rm_J7_fill_53178.cells rm_J7_fill_53178.slots (Ab G.b)) (F0 m 5 ls []) := by
  intro S v2 v3 H locs ls h hO hS hl
  unfold wJ7_fill_53178_b5 at h
  refine lv_iload_n C0.1 C0.2.1 dJ7_fill_53178_5 rfl (lv_at hl 2 rfl) ?_
  refine lv_iload_n C0.1 C0.2.1 dJ7_fill_53178_6 rfl (lv_at hl 3 rfl) ?_
  refine lv_icmp_ge (tgt := 20) C0.1 C0.2.1 dJ7_fill_53178_7 (by decide) (fun c1 => ?_) (fun c1 => ?_)
  · have h := h.1 c1
    exact e_V C0 Y hO hS h (Nat.le_refl _) (Nat.le_refl _) dJ7_fill_53178_20
  · have h := h.2 c1
    refine lv_aload_n C0.1 C0.2.1 dJ7_fill_53178_10 rfl (lv_at hl 0 rfl) ?_
    refine lv_iload_n C0.1 C0.2.1 dJ7_fill_53178_11 rfl (lv_at hl 2 rfl) ?_
    refine lv_iload_n C0.1 C0.2.1 dJ7_fill_53178_12 rfl (lv_at hl 1 rfl) ?_
    obtain ⟨i2, h⟩ := h
    obtain ⟨e3, h⟩ := h
    refine r_iast C0 hO hS i2 e3 dJ7_fill_53178_13 (fun H locs hO hS => ?_)
    have h := h _ rfl
    refine lv_iinc (v := _ + 1) C0.1 C0.2.1 dJ7_fill_53178_14 hl (k := 2) rfl rfl (by decide) rfl (fun ls hl => ?_)
    refine lv_goto (tgt := 5) C0.1 C0.2.1 dJ7_fill_53178_17 (by decide) ?_
    exact hk5 _ _ _ _ _ _ h hO hS (lv_sub hl [1, 2, 0, 3] rfl)
set_option maxHeartbeats 4000000 in
set_option maxRecDepth 100000 in
theorem lJ7_fill_53178_b5 {p : Program} {l : Launch} {e : Env} {s : State} {m : MethodId} {args : Array Value} {below : List Frame} {meth : Method} {c : Code} {G : Gw} {x0 : Nat} {x1 : Int32} {Φ : Hp → Prop} (C0 : Mx p s m c cJ7_fill_53178 4 args yJ7_fill_53178.cls G) (Y : My meth none)  : ∀ n9 : Nat, ∀ (S : Hp) (v2 : Int32) (v3 : Int32) (H : Heap) (locs : List Loc) (ls : Array Slot), it3 (wJ7_fill_53178_b5 x0 x1 Φ) n9 S v2 v3 → Ok G S H → va_S (Ab G.b) s.heap H locs → lv_has ls 4 [(0, .ref x0), (1, .int x1), (2, .int v2), (3, .int v3)] → W p l e rm_J7_fill_53178 s m args below meth c H locs 0 0 (MQ below (gQ G (PV Φ)) args s rm_J7_fill_53178.cells rm_J7_fill_53178.slots (Ab G.b)) (F0 m 5 ls []) := by
  intro n9
  induction n9 with
  | zero => intro S v2 v3 H locs ls h; exact (h : False).elim
  | succ n9 ih => intro S v2 v3 H locs ls h hO hS hl; exact bJ7_fill_53178_b5 C0 Y ih S v2 v3 H locs ls h hO hS hl
def wJ7_fill_53178_b0 (x0 : Nat) (x1 : Int32) (Φ : Hp → Prop) (S : Hp) : Prop := isA S x0 21 ∧ ∃ n, it3 (wJ7_fill_53178_b5 x0 x1 Φ) n S 0 (nI (S.N x0))
set_option maxHeartbeats 4000000 in
set_option maxRecDepth 100000 in
theorem bJ7_fill_53178_b0 {p : Program} {l : Launch} {e : Env} {s : State} {m : MethodId} {args : Array Value} {below : List Frame} {meth : Method} {c : Code} {G : Gw} {x0 : Nat} {x1 : Int32} {Φ : Hp → Prop} (C0 : Mx p s m c cJ7_fill_53178 4 args yJ7_fill_53178.cls G) (Y : My meth none)  : ∀ (S : Hp) (H : Heap) (locs : List Loc) (ls : Array Slot), wJ7_fill_53178_b0 x0 x1 Φ S → Ok G S H → va_S (Ab G.b) s.heap H locs → lv_has ls 4 [(0, .ref x0), (1, .int x1)] → W p l e rm_J7_fill_53178 s m args below meth c H locs 0 0 (MQ below (gQ G (PV Φ)) args s rm_J7_fill_53178.cells rm_J7_fill_53178.slots (Ab G.b)) (F0 m 0 ls []) := by
  intro S H locs ls h hO hS hl
  unfold wJ7_fill_53178_b0 at h
  refine lv_iconst (v := 0) C0.1 C0.2.1 dJ7_fill_53178_0 (by decide) ?_
  refine lv_istore_n C0.1 C0.2.1 dJ7_fill_53178_1 rfl hl (by decide) rfl (fun ls hl => ?_)
  refine lv_aload_n C0.1 C0.2.1 dJ7_fill_53178_2 rfl (lv_at hl 1 rfl) ?_
  obtain ⟨i1, h⟩ := h
  refine r_len (k := 21) (t := 1) C0 hO i1 (by decide) rfl dJ7_fill_53178_3 ?_
  refine lv_istore_n C0.1 C0.2.1 dJ7_fill_53178_4 rfl hl (by decide) rfl (fun ls hl => ?_)
  obtain ⟨n9, h⟩ := h
  exact lJ7_fill_53178_b5 C0 Y n9 _ _ _ _ _ _ h hO hS (lv_sub hl [2, 3, 1, 0] rfl)
def wJ7_fill_53178 (S : Hp) (x0 : Nat) (x1 : Int32) (Φ : Hp → Prop) : Prop := wJ7_fill_53178_b0 x0 x1 Φ S
set_option maxRecDepth 100000 in
theorem mJ7_fill_53178 {l : Launch} {G : Gw} {S : Hp} {x0 : Nat} {x1 : Int32} {Φ : Hp → Prop} (h : wJ7_fill_53178 S x0 x1 Φ) : gM l yJ7_fill_53178 cJ7_fill_53178 4 none rm_J7_fill_53178 [.ref x0, .int x1] G S (PV Φ) := by
  unfold gM
  refine Met.ofW (cc := cJ7_fill_53178) (maxL := 4) (ret := none) (by decide) rfl ?_
  intro p e s m args below meth c s₁ B hml hv
  obtain ⟨rfl, hw⟩ := hv
  obtain ⟨C0, Y, hO⟩ := mx_of B hml hw
  have hS : va_S (Ab G.b) s.heap s.heap [] := va_S.rf
  have hl := lv_entry ([.ref x0, .int x1]) (n := 4) (Nat.le_of_ble_eq_true rfl)
  rw [lg_entry_eq]
  generalize (lg_sl ([.ref x0, .int x1]) ++ List.replicate (4 - (lg_sl ([.ref x0, .int x1])).length) Slot.unset).toArray = ls at hl ⊢
  have hl : lv_has ls 4 [(0, .ref x0), (1, .int x1)] := hl
  exact bJ7_fill_53178_b0 C0 Y S _ _ _ h hO hS hl

def rm_J7_fill_d0a16 : Room := { frames := 0, cells := 0, slots := 0, locals := 0 }
def wJ7_fill_d0a16_b6 (x0 : Nat) (x1 : Int64) (Φ : Hp → Prop) (k6 : Hp → Int32 → Int32 → Prop) (S : Hp) (v3 : Int32) (v4 : Int32) : Prop := ((v4 ≤ v3 → Φ S) ∧ (¬ (v4 ≤ v3) → isA S x0 22 ∧ vp_in v3 (S.N x0) ∧ ∀ S4, S4 = S.setAJ x0 v3.toNatClampNeg x1 → k6 S4 (v3 + 1) v4))
set_option maxHeartbeats 4000000 in
set_option maxRecDepth 100000 in
theorem bJ7_fill_d0a16_b6 {p : Program} {l : Launch} {e : Env} {s : State} {m : MethodId} {args : Array Value} {below : List Frame} {meth : Method} {c : Code} {G : Gw} {x0 : Nat} {x1 : Int64} {Φ : Hp → Prop} (C0 : Mx p s m c cJ7_fill_d0a16 5 args yJ7_fill_d0a16.cls G) (Y : My meth none) {k6 : Hp → Int32 → Int32 → Prop} (hk6 : ∀ (S : Hp) (v3 : Int32) (v4 : Int32) (H : Heap) (locs : List Loc) (ls : Array Slot), k6 S v3 v4 → Ok G S H → va_S (Ab G.b) s.heap H locs → lv_has ls 5 [(0, .ref x0), (1, .long x1), (3, .int v3), (4, .int v4)] → W p l e rm_J7_fill_d0a16 s m args below meth c H locs 0 0 (MQ below (gQ G (PV Φ)) args s rm_J7_fill_d0a16.cells rm_J7_fill_d0a16.slots (Ab G.b)) (F0 m 6 ls [])) : ∀ (S : Hp) (v3 : Int32) (v4 : Int32) (H : Heap) (locs : List Loc) (ls : Array Slot), wJ7_fill_d0a16_b6 x0 x1 Φ k6 S v3 v4 → Ok G S H → va_S (Ab G.b) s.heap H locs → lv_has ls 5 [(0, .ref x0), (1, .long x1), (3, .int v3), (4, .int v4)] → W p l e rm_J7_fill_d0a16 s m args below meth c H locs 0 0 (MQ below (gQ G (PV Φ)) args s rm_J7_fill_d0a16.cells rm_J7_fill_d0a16.slots (Ab G.b)) (F0 m 6 ls []) := by
  intro S v3 v4 H locs ls h hO hS hl
  unfold wJ7_fill_d0a16_b6 at h
  refine lv_iload_n C0.1 C0.2.1 dJ7_fill_d0a16_6 rfl (lv_at hl 2 rfl) ?_
  refine lv_iload C0.1 C0.2.1 dJ7_fill_d0a16_7 (lv_at hl 3 rfl) ?_
  refine lv_icmp_ge (tgt := 22) C0.1 C0.2.1 dJ7_fill_d0a16_9 (by decide) (fun c1 => ?_) (fun c1 => ?_)
  · have h := h.1 c1
    exact e_V C0 Y hO hS h (Nat.le_refl _) (Nat.le_refl _) dJ7_fill_d0a16_22
  · have h := h.2 c1
    refine lv_aload_n C0.1 C0.2.1 dJ7_fill_d0a16_12 rfl (lv_at hl 0 rfl) ?_
    refine lv_iload_n C0.1 C0.2.1 dJ7_fill_d0a16_13 rfl (lv_at hl 2 rfl) ?_
    refine lv_lload_n C0.1 C0.2.1 dJ7_fill_d0a16_14 rfl (lv_at hl 1 rfl) ?_
    obtain ⟨i2, h⟩ := h
    obtain ⟨e3, h⟩ := h
    refine r_last C0 hO hS i2 e3 dJ7_fill_d0a16_15 (fun H locs hO hS => ?_)
    have h := h _ rfl
    refine lv_iinc (v := _ + 1) C0.1 C0.2.1 dJ7_fill_d0a16_16 hl (k := 2) rfl rfl (by decide) rfl (fun ls hl => ?_)
    refine lv_goto (tgt := 6) C0.1 C0.2.1 dJ7_fill_d0a16_19 (by decide) ?_
    exact hk6 _ _ _ _ _ _ h hO hS (lv_sub hl [1, 2, 0, 3] rfl)
set_option maxHeartbeats 4000000 in
set_option maxRecDepth 100000 in
theorem lJ7_fill_d0a16_b6 {p : Program} {l : Launch} {e : Env} {s : State} {m : MethodId} {args : Array Value} {below : List Frame} {meth : Method} {c : Code} {G : Gw} {x0 : Nat} {x1 : Int64} {Φ : Hp → Prop} (C0 : Mx p s m c cJ7_fill_d0a16 5 args yJ7_fill_d0a16.cls G) (Y : My meth none)  : ∀ n9 : Nat, ∀ (S : Hp) (v3 : Int32) (v4 : Int32) (H : Heap) (locs : List Loc) (ls : Array Slot), it3 (wJ7_fill_d0a16_b6 x0 x1 Φ) n9 S v3 v4 → Ok G S H → va_S (Ab G.b) s.heap H locs → lv_has ls 5 [(0, .ref x0), (1, .long x1), (3, .int v3), (4, .int v4)] → W p l e rm_J7_fill_d0a16 s m args below meth c H locs 0 0 (MQ below (gQ G (PV Φ)) args s rm_J7_fill_d0a16.cells rm_J7_fill_d0a16.slots (Ab G.b)) (F0 m 6 ls []) := by
  intro n9
  induction n9 with
  | zero => intro S v3 v4 H locs ls h; exact (h : False).elim
  | succ n9 ih => intro S v3 v4 H locs ls h hO hS hl; exact bJ7_fill_d0a16_b6 C0 Y ih S v3 v4 H locs ls h hO hS hl
def wJ7_fill_d0a16_b0 (x0 : Nat) (x1 : Int64) (Φ : Hp → Prop) (S : Hp) : Prop := isA S x0 22 ∧ ∃ n, it3 (wJ7_fill_d0a16_b6 x0 x1 Φ) n S 0 (nI (S.N x0))
set_option maxHeartbeats 4000000 in
set_option maxRecDepth 100000 in
theorem bJ7_fill_d0a16_b0 {p : Program} {l : Launch} {e : Env} {s : State} {m : MethodId} {args : Array Value} {below : List Frame} {meth : Method} {c : Code} {G : Gw} {x0 : Nat} {x1 : Int64} {Φ : Hp → Prop} (C0 : Mx p s m c cJ7_fill_d0a16 5 args yJ7_fill_d0a16.cls G) (Y : My meth none)  : ∀ (S : Hp) (H : Heap) (locs : List Loc) (ls : Array Slot), wJ7_fill_d0a16_b0 x0 x1 Φ S → Ok G S H → va_S (Ab G.b) s.heap H locs → lv_has ls 5 [(0, .ref x0), (1, .long x1)] → W p l e rm_J7_fill_d0a16 s m args below meth c H locs 0 0 (MQ below (gQ G (PV Φ)) args s rm_J7_fill_d0a16.cells rm_J7_fill_d0a16.slots (Ab G.b)) (F0 m 0 ls []) := by
  intro S H locs ls h hO hS hl
  unfold wJ7_fill_d0a16_b0 at h
  refine lv_iconst (v := 0) C0.1 C0.2.1 dJ7_fill_d0a16_0 (by decide) ?_
  refine lv_istore_n C0.1 C0.2.1 dJ7_fill_d0a16_1 rfl hl (by decide) rfl (fun ls hl => ?_)
  refine lv_aload_n C0.1 C0.2.1 dJ7_fill_d0a16_2 rfl (lv_at hl 1 rfl) ?_
  obtain ⟨i1, h⟩ := h
  refine r_len (k := 22) (t := 2) C0 hO i1 (by decide) rfl dJ7_fill_d0a16_3 ?_
  refine lv_istore C0.1 C0.2.1 dJ7_fill_d0a16_4 hl (by decide) rfl (fun ls hl => ?_)
  obtain ⟨n9, h⟩ := h
  exact lJ7_fill_d0a16_b6 C0 Y n9 _ _ _ _ _ _ h hO hS (lv_sub hl [2, 3, 1, 0] rfl)
def wJ7_fill_d0a16 (S : Hp) (x0 : Nat) (x1 : Int64) (Φ : Hp → Prop) : Prop := wJ7_fill_d0a16_b0 x0 x1 Φ S
set_option maxRecDepth 100000 in
theorem mJ7_fill_d0a16 {l : Launch} {G : Gw} {S : Hp} {x0 : Nat} {x1 : Int64} {Φ : Hp → Prop} (h : wJ7_fill_d0a16 S x0 x1 Φ) : gM l yJ7_fill_d0a16 cJ7_fill_d0a16 5 none rm_J7_fill_d0a16 [.ref x0, .long x1] G S (PV Φ) := by
  unfold gM
  refine Met.ofW (cc := cJ7_fill_d0a16) (maxL := 5) (ret := none) (by decide) rfl ?_
  intro p e s m args below meth c s₁ B hml hv
  obtain ⟨rfl, hw⟩ := hv
  obtain ⟨C0, Y, hO⟩ := mx_of B hml hw
  have hS : va_S (Ab G.b) s.heap s.heap [] := va_S.rf
  have hl := lv_entry ([.ref x0, .long x1]) (n := 5) (Nat.le_of_ble_eq_true rfl)
  rw [lg_entry_eq]
  generalize (lg_sl ([.ref x0, .long x1]) ++ List.replicate (5 - (lg_sl ([.ref x0, .long x1])).length) Slot.unset).toArray = ls at hl ⊢
  have hl : lv_has ls 5 [(0, .ref x0), (1, .long x1)] := hl
  exact bJ7_fill_d0a16_b0 C0 Y S _ _ _ h hO hS hl

def rm_J9_floorDiv_f86c9 : Room := { frames := 0, cells := 0, slots := 0, locals := 0 }
def wJ9_floorDiv_f86c9_b0 (x0 : Int64) (x2 : Int64) (Φ : Hp → Int64 → Prop) (S : Hp) : Prop := ¬ x2 = 0 ∧ ((0 ≤ (lg_cmp (x0 ^^^ x2) 0) → Φ S (x0 / x2)) ∧ (¬ (0 ≤ (lg_cmp (x0 ^^^ x2) 0)) → (((lg_cmp ((x0 / x2) * x2) x0) = 0 → Φ S (x0 / x2)) ∧ (¬ ((lg_cmp ((x0 / x2) * x2) x0) = 0) → Φ S ((x0 / x2) - 1)))))
set_option maxHeartbeats 4000000 in
set_option maxRecDepth 100000 in
theorem bJ9_floorDiv_f86c9_b0 {p : Program} {l : Launch} {e : Env} {s : State} {m : MethodId} {args : Array Value} {below : List Frame} {meth : Method} {c : Code} {G : Gw} {x0 : Int64} {x2 : Int64} {Φ : Hp → Int64 → Prop} (C0 : Mx p s m c cJ9_floorDiv_f86c9 6 args yJ9_floorDiv_f86c9.cls G) (Y : My meth (some .long))  : ∀ (S : Hp) (H : Heap) (locs : List Loc) (ls : Array Slot), wJ9_floorDiv_f86c9_b0 x0 x2 Φ S → Ok G S H → va_S (Ab G.b) s.heap H locs → lv_has ls 6 [(0, .long x0), (2, .long x2)] → W p l e rm_J9_floorDiv_f86c9 s m args below meth c H locs 0 0 (MQ below (gQ G (PJ Φ)) args s rm_J9_floorDiv_f86c9.cells rm_J9_floorDiv_f86c9.slots (Ab G.b)) (F0 m 0 ls []) := by
  intro S H locs ls h hO hS hl
  unfold wJ9_floorDiv_f86c9_b0 at h
  refine lv_lload_n C0.1 C0.2.1 dJ9_floorDiv_f86c9_0 rfl (lv_at hl 0 rfl) ?_
  refine lv_lload_n C0.1 C0.2.1 dJ9_floorDiv_f86c9_1 rfl (lv_at hl 1 rfl) ?_
  obtain ⟨e1, h⟩ := h
  refine lv_ldiv C0.1 C0.2.1 dJ9_floorDiv_f86c9_2 e1 ?_
  refine lv_lstore C0.1 C0.2.1 dJ9_floorDiv_f86c9_3 hl (by decide) rfl (fun ls hl => ?_)
  refine lv_lload_n C0.1 C0.2.1 dJ9_floorDiv_f86c9_5 rfl (lv_at hl 1 rfl) ?_
  refine lv_lload_n C0.1 C0.2.1 dJ9_floorDiv_f86c9_6 rfl (lv_at hl 2 rfl) ?_
  refine lv_lxor C0.1 C0.2.1 dJ9_floorDiv_f86c9_7 ?_
  refine lv_lconst (v := 0) C0.1 C0.2.1 dJ9_floorDiv_f86c9_8 (by decide) ?_
  refine W.lcmp C0.1 C0.2.1 dJ9_floorDiv_f86c9_9 ?_
  refine lv_if_ge (tgt := 27) C0.1 C0.2.1 dJ9_floorDiv_f86c9_10 (by decide) (fun c2 => ?_) (fun c2 => ?_)
  · have h := h.1 c2
    refine lv_lload C0.1 C0.2.1 dJ9_floorDiv_f86c9_27 (lv_at hl 0 rfl) ?_
    exact e_J C0 Y hO hS h (Nat.le_refl _) (Nat.le_refl _) dJ9_floorDiv_f86c9_29
  · have h := h.2 c2
    refine lv_lload C0.1 C0.2.1 dJ9_floorDiv_f86c9_13 (lv_at hl 0 rfl) ?_
    refine lv_lload_n C0.1 C0.2.1 dJ9_floorDiv_f86c9_15 rfl (lv_at hl 2 rfl) ?_
    refine lv_lmul C0.1 C0.2.1 dJ9_floorDiv_f86c9_16 ?_
    refine lv_lload_n C0.1 C0.2.1 dJ9_floorDiv_f86c9_17 rfl (lv_at hl 1 rfl) ?_
    refine W.lcmp C0.1 C0.2.1 dJ9_floorDiv_f86c9_18 ?_
    refine lv_if_eq (tgt := 27) C0.1 C0.2.1 dJ9_floorDiv_f86c9_19 (by decide) (fun c3 => ?_) (fun c3 => ?_)
    · have h := h.1 c3
      refine lv_lload C0.1 C0.2.1 dJ9_floorDiv_f86c9_27 (lv_at hl 0 rfl) ?_
      exact e_J C0 Y hO hS h (Nat.le_refl _) (Nat.le_refl _) dJ9_floorDiv_f86c9_29
    · have h := h.2 c3
      refine lv_lload C0.1 C0.2.1 dJ9_floorDiv_f86c9_22 (lv_at hl 0 rfl) ?_
      refine lv_lconst (v := 1) C0.1 C0.2.1 dJ9_floorDiv_f86c9_24 (by decide) ?_
      refine lv_lsub C0.1 C0.2.1 dJ9_floorDiv_f86c9_25 ?_
      exact e_J C0 Y hO hS h (Nat.le_refl _) (Nat.le_refl _) dJ9_floorDiv_f86c9_26
def wJ9_floorDiv_f86c9 (S : Hp) (x0 : Int64) (x2 : Int64) (Φ : Hp → Int64 → Prop) : Prop := wJ9_floorDiv_f86c9_b0 x0 x2 Φ S
set_option maxRecDepth 100000 in
theorem mJ9_floorDiv_f86c9 {l : Launch} {G : Gw} {S : Hp} {x0 : Int64} {x2 : Int64} {Φ : Hp → Int64 → Prop} (h : wJ9_floorDiv_f86c9 S x0 x2 Φ) : gM l yJ9_floorDiv_f86c9 cJ9_floorDiv_f86c9 6 (some .long) rm_J9_floorDiv_f86c9 [.long x0, .long x2] G S (PJ Φ) := by
  unfold gM
  refine ofWF (cc := cJ9_floorDiv_f86c9) (maxL := 6) (ret := (some .long)) (by decide +kernel) rfl ?_
  intro p e s m args below meth c s₁ B hml hv
  obtain ⟨rfl, hw⟩ := hv
  obtain ⟨C0, Y, hO⟩ := mx_of B hml hw
  have hS : va_S (Ab G.b) s.heap s.heap [] := va_S.rf
  have hl := lv_entry ([.long x0, .long x2]) (n := 6) (Nat.le_of_ble_eq_true rfl)
  rw [lg_entry_eq]
  generalize (lg_sl ([.long x0, .long x2]) ++ List.replicate (6 - (lg_sl ([.long x0, .long x2])).length) Slot.unset).toArray = ls at hl ⊢
  have hl : lv_has ls 6 [(0, .long x0), (2, .long x2)] := hl
  exact bJ9_floorDiv_f86c9_b0 C0 Y S _ _ _ h hO hS hl

def rm_J9_floorMod_f86c9 : Room := { frames := 0, cells := 0, slots := 0, locals := 0 }
def wJ9_floorMod_f86c9_b0 (x0 : Int64) (x2 : Int64) (Φ : Hp → Int64 → Prop) (S : Hp) : Prop := ¬ x2 = 0 ∧ ((0 ≤ (lg_cmp (x0 ^^^ x2) 0) → Φ S (x0 - x0 / x2 * x2)) ∧ (¬ (0 ≤ (lg_cmp (x0 ^^^ x2) 0)) → (((lg_cmp (x0 - x0 / x2 * x2) 0) = 0 → Φ S (x0 - x0 / x2 * x2)) ∧ (¬ ((lg_cmp (x0 - x0 / x2 * x2) 0) = 0) → Φ S ((x0 - x0 / x2 * x2) + x2)))))
set_option maxHeartbeats 4000000 in
set_option maxRecDepth 100000 in
theorem bJ9_floorMod_f86c9_b0 {p : Program} {l : Launch} {e : Env} {s : State} {m : MethodId} {args : Array Value} {below : List Frame} {meth : Method} {c : Code} {G : Gw} {x0 : Int64} {x2 : Int64} {Φ : Hp → Int64 → Prop} (C0 : Mx p s m c cJ9_floorMod_f86c9 6 args yJ9_floorMod_f86c9.cls G) (Y : My meth (some .long))  : ∀ (S : Hp) (H : Heap) (locs : List Loc) (ls : Array Slot), wJ9_floorMod_f86c9_b0 x0 x2 Φ S → Ok G S H → va_S (Ab G.b) s.heap H locs → lv_has ls 6 [(0, .long x0), (2, .long x2)] → W p l e rm_J9_floorMod_f86c9 s m args below meth c H locs 0 0 (MQ below (gQ G (PJ Φ)) args s rm_J9_floorMod_f86c9.cells rm_J9_floorMod_f86c9.slots (Ab G.b)) (F0 m 0 ls []) := by
  intro S H locs ls h hO hS hl
  unfold wJ9_floorMod_f86c9_b0 at h
  refine lv_lload_n C0.1 C0.2.1 dJ9_floorMod_f86c9_0 rfl (lv_at hl 0 rfl) ?_
  refine lv_lload_n C0.1 C0.2.1 dJ9_floorMod_f86c9_1 rfl (lv_at hl 1 rfl) ?_
  obtain ⟨e1, h⟩ := h
  refine lv_lrem C0.1 C0.2.1 dJ9_floorMod_f86c9_2 e1 ?_
  refine lv_lstore C0.1 C0.2.1 dJ9_floorMod_f86c9_3 hl (by decide) rfl (fun ls hl => ?_)
  refine lv_lload_n C0.1 C0.2.1 dJ9_floorMod_f86c9_5 rfl (lv_at hl 1 rfl) ?_
  refine lv_lload_n C0.1 C0.2.1 dJ9_floorMod_f86c9_6 rfl (lv_at hl 2 rfl) ?_
  refine lv_lxor C0.1 C0.2.1 dJ9_floorMod_f86c9_7 ?_
  refine lv_lconst (v := 0) C0.1 C0.2.1 dJ9_floorMod_f86c9_8 (by decide) ?_
  refine W.lcmp C0.1 C0.2.1 dJ9_floorMod_f86c9_9 ?_
  refine lv_if_ge (tgt := 25) C0.1 C0.2.1 dJ9_floorMod_f86c9_10 (by decide) (fun c2 => ?_) (fun c2 => ?_)
  · have h := h.1 c2
    refine lv_lload C0.1 C0.2.1 dJ9_floorMod_f86c9_25 (lv_at hl 0 rfl) ?_
    exact e_J C0 Y hO hS h (Nat.le_refl _) (Nat.le_refl _) dJ9_floorMod_f86c9_27
  · have h := h.2 c2
    refine lv_lload C0.1 C0.2.1 dJ9_floorMod_f86c9_13 (lv_at hl 0 rfl) ?_
    refine lv_lconst (v := 0) C0.1 C0.2.1 dJ9_floorMod_f86c9_15 (by decide) ?_
    refine W.lcmp C0.1 C0.2.1 dJ9_floorMod_f86c9_16 ?_
    refine lv_if_eq (tgt := 25) C0.1 C0.2.1 dJ9_floorMod_f86c9_17 (by decide) (fun c3 => ?_) (fun c3 => ?_)
    · have h := h.1 c3
      refine lv_lload C0.1 C0.2.1 dJ9_floorMod_f86c9_25 (lv_at hl 0 rfl) ?_
      exact e_J C0 Y hO hS h (Nat.le_refl _) (Nat.le_refl _) dJ9_floorMod_f86c9_27
    · have h := h.2 c3
      refine lv_lload C0.1 C0.2.1 dJ9_floorMod_f86c9_20 (lv_at hl 0 rfl) ?_
      refine lv_lload_n C0.1 C0.2.1 dJ9_floorMod_f86c9_22 rfl (lv_at hl 2 rfl) ?_
      refine lv_ladd C0.1 C0.2.1 dJ9_floorMod_f86c9_23 ?_
      exact e_J C0 Y hO hS h (Nat.le_refl _) (Nat.le_refl _) dJ9_floorMod_f86c9_24
def wJ9_floorMod_f86c9 (S : Hp) (x0 : Int64) (x2 : Int64) (Φ : Hp → Int64 → Prop) : Prop := wJ9_floorMod_f86c9_b0 x0 x2 Φ S
set_option maxRecDepth 100000 in
theorem mJ9_floorMod_f86c9 {l : Launch} {G : Gw} {S : Hp} {x0 : Int64} {x2 : Int64} {Φ : Hp → Int64 → Prop} (h : wJ9_floorMod_f86c9 S x0 x2 Φ) : gM l yJ9_floorMod_f86c9 cJ9_floorMod_f86c9 6 (some .long) rm_J9_floorMod_f86c9 [.long x0, .long x2] G S (PJ Φ) := by
  unfold gM
  refine ofWF (cc := cJ9_floorMod_f86c9) (maxL := 6) (ret := (some .long)) (by decide +kernel) rfl ?_
  intro p e s m args below meth c s₁ B hml hv
  obtain ⟨rfl, hw⟩ := hv
  obtain ⟨C0, Y, hO⟩ := mx_of B hml hw
  have hS : va_S (Ab G.b) s.heap s.heap [] := va_S.rf
  have hl := lv_entry ([.long x0, .long x2]) (n := 6) (Nat.le_of_ble_eq_true rfl)
  rw [lg_entry_eq]
  generalize (lg_sl ([.long x0, .long x2]) ++ List.replicate (6 - (lg_sl ([.long x0, .long x2])).length) Slot.unset).toArray = ls at hl ⊢
  have hl : lv_has ls 6 [(0, .long x0), (2, .long x2)] := hl
  exact bJ9_floorMod_f86c9_b0 C0 Y S _ _ _ h hO hS hl
