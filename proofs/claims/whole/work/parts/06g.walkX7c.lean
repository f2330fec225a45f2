def rm_X7_steepOver : Room := { frames := 8, cells := 3, slots := 14, locals := 133 }
def wX7_steepOver_b0 (x0 : Nat) (x1 : Int32) (Φ : Hp → Int64 → Prop) (Ψ : Hp → String → Prop) (S : Hp) : Prop := isA S x0 7 ∧ wX7_wholeCamAt S x0 x1 (fun S1 r2 => ∃ a4, r2 = some a4 ∧ isA S1 a4 1 ∧ wX1_steepest S1 a4 (fun S5 r6 => ∃ a8, r6 = some a8 ∧ isA S5 a8 3 ∧ Φ S5 (S5.FJ 192 a8))) Ψ
set_option maxHeartbeats 4000000 in
set_option maxRecDepth 100000 in
theorem bX7_steepOver_b0 {p : Program} {l : Launch} {e : Env} {s : State} {m : MethodId} {args : Array Value} {below : List Frame} {meth : Method} {c : Code} {G : Gw} {x0 : Nat} {x1 : Int32} {Φ : Hp → Int64 → Prop} {Ψ : Hp → String → Prop} (C0 : Mx p s m c cX7_steepOver 2 args yX7_steepOver.cls G) (Y : My meth (some .long)) (hl9 : l.stackTraces = false) (hx9 : ∀ x ∈ c.exceptionTable.toList, False)  : ∀ (S : Hp) (H : Heap) (locs : List Loc) (ls : Array Slot) (cells slots : Nat), wX7_steepOver_b0 x0 x1 Φ Ψ S → Ok G S H → va_S (Ab G.b) s.heap H locs → lv_has ls 2 [(0, .ref x0), (1, .int x1)] → cells + (3) ≤ 3 → slots + (14) ≤ 14 → W p l e rm_X7_steepOver s m args below meth c H locs cells slots (vx_MQ below (gQ G (PJ Φ)) (gX G Ψ) args s rm_X7_steepOver.cells rm_X7_steepOver.slots (Ab G.b)) (F0 m 0 ls []) := by
  intro S H locs ls cells slots h hO hS hl hcc hss
  unfold wX7_steepOver_b0 at h
  refine lv_aload_n C0.1 C0.2.1 dX7_steepOver_0 rfl (lv_at hl 0 rfl) ?_
  refine lv_iload_n C0.1 C0.2.1 dX7_steepOver_1 rfl (lv_at hl 1 rfl) ?_
  obtain ⟨i3, h⟩ := h
  refine x_V C0 Y.2 hx9 hO hS (mX7_wholeCamAt hl9 h) i3 (by decide) rfl rfl tb_1051 tb_1053 tb_31 tb_74 tb_1054 hd_X7_wholeCamAt rfl ⟨⟨by decide, by decide⟩, by show _ + 2 ≤ 3; omega, by show _ + 12 ≤ 14; omega⟩ hl.1 rfl (Nat.le_of_ble_eq_true rfl) dX7_steepOver_2 (by show _ + 2 ≤ 3; omega) (by show _ + 12 ≤ 14; omega) (kR (fun r2 S1 H locs h hO hS => ?_))
  change W _ _ _ _ _ _ _ _ _ _ _ _ (_ + 2) (_ + 12) _ _
  obtain ⟨a4, ea4, h⟩ := h
  subst ea4
  change W _ _ _ _ _ _ _ _ _ _ _ _ _ _ _ (F0 _ _ _ (.ref a4 :: _))
  obtain ⟨i7, h⟩ := h
  refine c_V C0 hO hS (mX1_steepest h) i7 (by decide) rfl rfl tb_1075 tb_1076 tb_1077 tb_99 tb_1078 hd_X1_steepest rfl ⟨⟨by decide, by decide⟩, by show _ + 1 ≤ 3; omega, by show _ + 2 ≤ 14; omega⟩ hl.1 rfl (Nat.le_of_ble_eq_true rfl) dX7_steepOver_5 (kR (fun r6 S5 H locs h hO hS => ?_))
  change W _ _ _ _ _ _ _ _ _ _ _ _ (_ + 1) (_ + 2) _ _
  obtain ⟨a8, ea8, h⟩ := h
  subst ea8
  change W _ _ _ _ _ _ _ _ _ _ _ _ _ _ _ (F0 _ _ _ (.ref a8 :: _))
  obtain ⟨i9, h⟩ := h
  refine g3_0 C0 hO i9 tb_437 dX7_steepOver_8 ?_
  refine vx_ret ?_
  exact e_J C0 Y hO hS h (by show _ ≤ 3; omega) (by show _ ≤ 14; omega) dX7_steepOver_11
def wX7_steepOver (S : Hp) (x0 : Nat) (x1 : Int32) (Φ : Hp → Int64 → Prop) (Ψ : Hp → String → Prop) : Prop := wX7_steepOver_b0 x0 x1 Φ Ψ S
set_option maxRecDepth 100000 in
theorem mX7_steepOver {l : Launch} {G : Gw} (hl9 : l.stackTraces = false) {S : Hp} {x0 : Nat} {x1 : Int32} {Φ : Hp → Int64 → Prop} {Ψ : Hp → String → Prop} (h : wX7_steepOver S x0 x1 Φ Ψ) : gT l yX7_steepOver cX7_steepOver 2 (some .long) rm_X7_steepOver [.ref x0, .int x1] G S (PJ Φ) Ψ := by
  unfold gT
  refine vx_ofW (cc := cX7_steepOver) (maxL := 2) (ret := (some .long)) (by decide) rfl ?_
  intro p e s m args below meth c s₁ B hml hx9 hv
  obtain ⟨rfl, hw⟩ := hv
  obtain ⟨C0, Y, hO⟩ := mx_of B hml hw
  have hS : va_S (Ab G.b) s.heap s.heap [] := va_S.rf
  have hl := lv_entry ([.ref x0, .int x1]) (n := 2) (Nat.le_of_ble_eq_true rfl)
  rw [lg_entry_eq]
  generalize (lg_sl ([.ref x0, .int x1]) ++ List.replicate (2 - (lg_sl ([.ref x0, .int x1])).length) Slot.unset).toArray = ls at hl ⊢
  have hl : lv_has ls 2 [(0, .ref x0), (1, .int x1)] := hl
  exact bX7_steepOver_b0 C0 Y hl9 hx9 S _ _ _ 0 0 h hO hS hl (by decide) (by decide)

def rm_X7_steepUnder : Room := { frames := 8, cells := 3, slots := 14, locals := 133 }
def wX7_steepUnder_b0 (x0 : Nat) (x1 : Int32) (Φ : Hp → Int64 → Prop) (Ψ : Hp → String → Prop) (S : Hp) : Prop := isA S x0 7 ∧ wX7_wholeCamAt S x0 x1 (fun S1 r2 => ∃ a4, r2 = some a4 ∧ isA S1 a4 1 ∧ wX1_steepest S1 a4 (fun S5 r6 => ∃ a8, r6 = some a8 ∧ isA S5 a8 3 ∧ Φ S5 (S5.FJ 193 a8))) Ψ
set_option maxHeartbeats 4000000 in
set_option maxRecDepth 100000 in
theorem bX7_steepUnder_b0 {p : Program} {l : Launch} {e : Env} {s : State} {m : MethodId} {args : Array Value} {below : List Frame} {meth : Method} {c : Code} {G : Gw} {x0 : Nat} {x1 : Int32} {Φ : Hp → Int64 → Prop} {Ψ : Hp → String → Prop} (C0 : Mx p s m c cX7_steepUnder 2 args yX7_steepUnder.cls G) (Y : My meth (some .long)) (hl9 : l.stackTraces = false) (hx9 : ∀ x ∈ c.exceptionTable.toList, False)  : ∀ (S : Hp) (H : Heap) (locs : List Loc) (ls : Array Slot) (cells slots : Nat), wX7_steepUnder_b0 x0 x1 Φ Ψ S → Ok G S H → va_S (Ab G.b) s.heap H locs → lv_has ls 2 [(0, .ref x0), (1, .int x1)] → cells + (3) ≤ 3 → slots + (14) ≤ 14 → W p l e rm_X7_steepUnder s m args below meth c H locs cells slots (vx_MQ below (gQ G (PJ Φ)) (gX G Ψ) args s rm_X7_steepUnder.cells rm_X7_steepUnder.slots (Ab G.b)) (F0 m 0 ls []) := by
  intro S H locs ls cells slots h hO hS hl hcc hss
  unfold wX7_steepUnder_b0 at h
  refine lv_aload_n C0.1 C0.2.1 dX7_steepUnder_0 rfl (lv_at hl 0 rfl) ?_
  refine lv_iload_n C0.1 C0.2.1 dX7_steepUnder_1 rfl (lv_at hl 1 rfl) ?_
  obtain ⟨i3, h⟩ := h
  refine x_V C0 Y.2 hx9 hO hS (mX7_wholeCamAt hl9 h) i3 (by decide) rfl rfl tb_1051 tb_1053 tb_31 tb_74 tb_1054 hd_X7_wholeCamAt rfl ⟨⟨by decide, by decide⟩, by show _ + 2 ≤ 3; omega, by show _ + 12 ≤ 14; omega⟩ hl.1 rfl (Nat.le_of_ble_eq_true rfl) dX7_steepUnder_2 (by show _ + 2 ≤ 3; omega) (by show _ + 12 ≤ 14; omega) (kR (fun r2 S1 H locs h hO hS => ?_))
  change W _ _ _ _ _ _ _ _ _ _ _ _ (_ + 2) (_ + 12) _ _
  obtain ⟨a4, ea4, h⟩ := h
  subst ea4
  change W _ _ _ _ _ _ _ _ _ _ _ _ _ _ _ (F0 _ _ _ (.ref a4 :: _))
  obtain ⟨i7, h⟩ := h
  refine c_V C0 hO hS (mX1_steepest h) i7 (by decide) rfl rfl tb_1075 tb_1076 tb_1077 tb_99 tb_1078 hd_X1_steepest rfl ⟨⟨by decide, by decide⟩, by show _ + 1 ≤ 3; omega, by show _ + 2 ≤ 14; omega⟩ hl.1 rfl (Nat.le_of_ble_eq_true rfl) dX7_steepUnder_5 (kR (fun r6 S5 H locs h hO hS => ?_))
  change W _ _ _ _ _ _ _ _ _ _ _ _ (_ + 1) (_ + 2) _ _
  obtain ⟨a8, ea8, h⟩ := h
  subst ea8
  change W _ _ _ _ _ _ _ _ _ _ _ _ _ _ _ (F0 _ _ _ (.ref a8 :: _))
  obtain ⟨i9, h⟩ := h
  refine g3_1 C0 hO i9 tb_439 dX7_steepUnder_8 ?_
  refine vx_ret ?_
  exact e_J C0 Y hO hS h (by show _ ≤ 3; omega) (by show _ ≤ 14; omega) dX7_steepUnder_11
def wX7_steepUnder (S : Hp) (x0 : Nat) (x1 : Int32) (Φ : Hp → Int64 → Prop) (Ψ : Hp → String → Prop) : Prop := wX7_steepUnder_b0 x0 x1 Φ Ψ S
set_option maxRecDepth 100000 in
theorem mX7_steepUnder {l : Launch} {G : Gw} (hl9 : l.stackTraces = false) {S : Hp} {x0 : Nat} {x1 : Int32} {Φ : Hp → Int64 → Prop} {Ψ : Hp → String → Prop} (h : wX7_steepUnder S x0 x1 Φ Ψ) : gT l yX7_steepUnder cX7_steepUnder 2 (some .long) rm_X7_steepUnder [.ref x0, .int x1] G S (PJ Φ) Ψ := by
  unfold gT
  refine vx_ofW (cc := cX7_steepUnder) (maxL := 2) (ret := (some .long)) (by decide) rfl ?_
  intro p e s m args below meth c s₁ B hml hx9 hv
  obtain ⟨rfl, hw⟩ := hv
  obtain ⟨C0, Y, hO⟩ := mx_of B hml hw
  have hS : va_S (Ab G.b) s.heap s.heap [] := va_S.rf
  have hl := lv_entry ([.ref x0, .int x1]) (n := 2) (Nat.le_of_ble_eq_true rfl)
  rw [lg_entry_eq]
  generalize (lg_sl ([.ref x0, .int x1]) ++ List.replicate (2 - (lg_sl ([.ref x0, .int x1])).length) Slot.unset).toArray = ls at hl ⊢
  have hl : lv_has ls 2 [(0, .ref x0), (1, .int x1)] := hl
  exact bX7_steepUnder_b0 C0 Y hl9 hx9 S _ _ _ 0 0 h hO hS hl (by decide) (by decide)

def rm_X7_wish : Room := { frames := 7, cells := 3, slots := 18, locals := 112 }
def wX7_wish_b0 (x0 : Nat) (x1 : Int32) (x2 : Int32) (x3 : Int32) (Φ : Hp → Int32 → Prop) (Ψ : Hp → String → Prop) (S : Hp) : Prop := isA S x0 7 ∧ wX7_camAt S x0 x1 (fun S1 r2 => ∃ a4, r2 = some a4 ∧ wX7_checkRange S1 x2 0 23 (fun S5 => wX7_checkRange S5 x3 (-1) 99 (fun S6 => isA S6 a4 1 ∧ ∃ a8, S6.FR 68 a4 = some a8 ∧ isA S6 a8 21 ∧ vp_in x2 (S6.N a8) ∧ ∀ S11, S11 = S6.setAI a8 x2.toNatClampNeg x3 → wX1_countWishes S11 a4 (fun S12 r13 => Φ S12 r13)) Ψ) Ψ) Ψ
set_option maxHeartbeats 4000000 in
set_option maxRecDepth 100000 in
theorem bX7_wish_b0 {p : Program} {l : Launch} {e : Env} {s : State} {m : MethodId} {args : Array Value} {below : List Frame} {meth : Method} {c : Code} {G : Gw} {x0 : Nat} {x1 : Int32} {x2 : Int32} {x3 : Int32} {Φ : Hp → Int32 → Prop} {Ψ : Hp → String → Prop} (C0 : Mx p s m c cX7_wish 5 args yX7_wish.cls G) (Y : My meth (some .int)) (hl9 : l.stackTraces = false) (hx9 : ∀ x ∈ c.exceptionTable.toList, False)  : ∀ (S : Hp) (H : Heap) (locs : List Loc) (ls : Array Slot) (cells slots : Nat), wX7_wish_b0 x0 x1 x2 x3 Φ Ψ S → Ok G S H → va_S (Ab G.b) s.heap H locs → lv_has ls 5 [(0, .ref x0), (1, .int x1), (2, .int x2), (3, .int x3)] → cells + (3) ≤ 3 → slots + (18) ≤ 18 → W p l e rm_X7_wish s m args below meth c H locs cells slots (vx_MQ below (gQ G (PI Φ)) (gX G Ψ) args s rm_X7_wish.cells rm_X7_wish.slots (Ab G.b)) (F0 m 0 ls []) := by
  intro S H locs ls cells slots h hO hS hl hcc hss
  unfold wX7_wish_b0 at h
  refine lv_aload_n C0.1 C0.2.1 dX7_wish_0 rfl (lv_at hl 0 rfl) ?_
  refine lv_iload_n C0.1 C0.2.1 dX7_wish_1 rfl (lv_at hl 1 rfl) ?_
  obtain ⟨i3, h⟩ := h
  refine x_V C0 Y.2 hx9 hO hS (mX7_camAt hl9 h) i3 (by decide) rfl rfl tb_1019 tb_1021 tb_30 tb_74 tb_1022 hd_X7_camAt rfl ⟨⟨by decide, by decide⟩, by show _ + 1 ≤ 3; omega, by show _ + 6 ≤ 18; omega⟩ hl.1 rfl (Nat.le_of_ble_eq_true rfl) dX7_wish_2 (by show _ + 1 ≤ 3; omega) (by show _ + 6 ≤ 18; omega) (kR (fun r2 S1 H locs h hO hS => ?_))
  change W _ _ _ _ _ _ _ _ _ _ _ _ (_ + 1) (_ + 6) _ _
  obtain ⟨a4, ea4, h⟩ := h
  subst ea4
  change W _ _ _ _ _ _ _ _ _ _ _ _ _ _ _ (F0 _ _ _ (.ref a4 :: _))
  refine lv_astore C0.1 C0.2.1 dX7_wish_5 hl (by decide) rfl (fun ls hl => ?_)
  refine lv_iload_n C0.1 C0.2.1 dX7_wish_7 rfl (lv_at hl 3 rfl) ?_
  refine lv_iconst (v := 0) C0.1 C0.2.1 dX7_wish_8 (by decide) ?_
  refine lv_bipush (v := 23) C0.1 C0.2.1 dX7_wish_9 (by decide) ?_
  refine x_S C0 Y.2 hx9 hO hS (mX7_checkRange hl9 h) tb_758 tb_759 tb_74 tb_760 hd_X7_checkRange rfl ⟨⟨by decide, by decide⟩, by show _ + 1 ≤ 3; omega, by show _ + 6 ≤ 18; omega⟩ hl.1 rfl (Nat.le_of_ble_eq_true rfl) dX7_wish_11 (by show _ + 1 ≤ 3; omega) (by show _ + 6 ≤ 18; omega) (kV (fun S5 H locs h hO hS => ?_))
  change W _ _ _ _ _ _ _ _ _ _ _ _ (_ + 1) (_ + 6) _ _
  refine lv_iload_n C0.1 C0.2.1 dX7_wish_14 rfl (lv_at hl 4 rfl) ?_
  refine lv_iconst (v := (-1)) C0.1 C0.2.1 dX7_wish_15 (by decide) ?_
  refine lv_bipush (v := 99) C0.1 C0.2.1 dX7_wish_16 (by decide) ?_
  refine x_S C0 Y.2 hx9 hO hS (mX7_checkRange hl9 h) tb_758 tb_759 tb_74 tb_760 hd_X7_checkRange rfl ⟨⟨by decide, by decide⟩, by show _ + 1 ≤ 3; omega, by show _ + 6 ≤ 18; omega⟩ hl.1 rfl (Nat.le_of_ble_eq_true rfl) dX7_wish_18 (by show _ + 1 ≤ 3; omega) (by show _ + 6 ≤ 18; omega) (kV (fun S6 H locs h hO hS => ?_))
  change W _ _ _ _ _ _ _ _ _ _ _ _ (_ + 1) (_ + 6) _ _
  refine lv_aload C0.1 C0.2.1 dX7_wish_21 (lv_at hl 0 rfl) ?_
  obtain ⟨i7, h⟩ := h
  obtain ⟨a8, ea8, h⟩ := h
  refine g1_4 C0 hO i7 ea8 tb_991 dX7_wish_23 ?_
  refine lv_iload_n C0.1 C0.2.1 dX7_wish_26 rfl (lv_at hl 3 rfl) ?_
  refine lv_iload_n C0.1 C0.2.1 dX7_wish_27 rfl (lv_at hl 4 rfl) ?_
  obtain ⟨i9, h⟩ := h
  obtain ⟨e10, h⟩ := h
  refine r_iast C0 hO hS i9 e10 dX7_wish_28 (fun H locs hO hS => ?_)
  have h := h _ rfl
  refine lv_aload C0.1 C0.2.1 dX7_wish_29 (lv_at hl 0 rfl) ?_
  refine c_V C0 hO hS (mX1_countWishes h) (sA_AI i7) (by decide) rfl rfl tb_1097 tb_1098 tb_1099 tb_99 tb_1100 hd_X1_countWishes rfl ⟨⟨by decide, by decide⟩, by show _ + 0 ≤ 3; omega, by show _ + 0 ≤ 18; omega⟩ hl.1 rfl (Nat.le_of_ble_eq_true rfl) dX7_wish_31 (kI (fun r13 S12 H locs h hO hS => ?_))
  change W _ _ _ _ _ _ _ _ _ _ _ _ (_ + 0) (_ + 0) _ _
  refine vx_ret ?_
  exact e_I C0 Y hO hS h (by show _ ≤ 3; omega) (by show _ ≤ 18; omega) dX7_wish_34
def wX7_wish (S : Hp) (x0 : Nat) (x1 : Int32) (x2 : Int32) (x3 : Int32) (Φ : Hp → Int32 → Prop) (Ψ : Hp → String → Prop) : Prop := wX7_wish_b0 x0 x1 x2 x3 Φ Ψ S
set_option maxRecDepth 100000 in
theorem mX7_wish {l : Launch} {G : Gw} (hl9 : l.stackTraces = false) {S : Hp} {x0 : Nat} {x1 : Int32} {x2 : Int32} {x3 : Int32} {Φ : Hp → Int32 → Prop} {Ψ : Hp → String → Prop} (h : wX7_wish S x0 x1 x2 x3 Φ Ψ) : gT l yX7_wish cX7_wish 5 (some .int) rm_X7_wish [.ref x0, .int x1, .int x2, .int x3] G S (PI Φ) Ψ := by
  unfold gT
  refine vx_ofW (cc := cX7_wish) (maxL := 5) (ret := (some .int)) (by decide) rfl ?_
  intro p e s m args below meth c s₁ B hml hx9 hv
  obtain ⟨rfl, hw⟩ := hv
  obtain ⟨C0, Y, hO⟩ := mx_of B hml hw
  have hS : va_S (Ab G.b) s.heap s.heap [] := va_S.rf
  have hl := lv_entry ([.ref x0, .int x1, .int x2, .int x3]) (n := 5) (Nat.le_of_ble_eq_true rfl)
  rw [lg_entry_eq]
  generalize (lg_sl ([.ref x0, .int x1, .int x2, .int x3]) ++ List.replicate (5 - (lg_sl ([.ref x0, .int x1, .int x2, .int x3])).length) Slot.unset).toArray = ls at hl ⊢
  have hl : lv_has ls 5 [(0, .ref x0), (1, .int x1), (2, .int x2), (3, .int x3)] := hl
  exact bX7_wish_b0 C0 Y hl9 hx9 S _ _ _ 0 0 h hO hS hl (by decide) (by decide)

def rm_X7_make : Room := { frames := 7, cells := 4, slots := 24, locals := 112 }
def wX7_make_b0 (x0 : Nat) (x1 : Int32) (x2 : Int32) (x3 : Int32) (Φ : Hp → Int32 → Prop) (Ψ : Hp → String → Prop) (S : Hp) : Prop := isA S x0 7 ∧ wX7_camAt S x0 x1 (fun S1 r2 => ∃ a4, r2 = some a4 ∧ wX7_checkLaw S1 x2 (fun S5 => wX7_checkRange S5 x3 1 99 (fun S6 => isA S6 a4 1 ∧ ∃ a8, S6.FR 68 a4 = some a8 ∧ isA S6 a8 21 ∧ vp_in 0 (S6.N a8) ∧ ((¬ (S6.AI a8 ((0 : Int32).toNatClampNeg)) = (-1) → wX1_areWishesSteeper S6 a4 x2 x3 (fun S12 r13 => ((r13 = 0 → isA S12 a4 1 ∧ wX1_followWishes S12 a4 x2 (fun S15 => isA S15 a4 1 ∧ Φ S15 (S15.FI 69 a4))) ∧ (¬ (r13 = 0) → Ψ S12 "java/lang/UnsupportedOperationException")))) ∧ ((S6.AI a8 ((0 : Int32).toNatClampNeg)) = (-1) → Ψ S6 "java/util/NoSuchElementException"))) Ψ) Ψ) Ψ
set_option maxHeartbeats 4000000 in
set_option maxRecDepth 100000 in
theorem bX7_make_b0 {p : Program} {l : Launch} {e : Env} {s : State} {m : MethodId} {args : Array Value} {below : List Frame} {meth : Method} {c : Code} {G : Gw} {x0 : Nat} {x1 : Int32} {x2 : Int32} {x3 : Int32} {Φ : Hp → Int32 → Prop} {Ψ : Hp → String → Prop} (C0 : Mx p s m c cX7_make 5 args yX7_make.cls G) (Y : My meth (some .int)) (hl9 : l.stackTraces = false) (hx9 : ∀ x ∈ c.exceptionTable.toList, False)  : ∀ (S : Hp) (H : Heap) (locs : List Loc) (ls : Array Slot) (cells slots : Nat), wX7_make_b0 x0 x1 x2 x3 Φ Ψ S → Ok G S H → va_S (Ab G.b) s.heap H locs → lv_has ls 5 [(0, .ref x0), (1, .int x1), (2, .int x2), (3, .int x3)] → cells + (4) ≤ 4 → slots + (24) ≤ 24 → W p l e rm_X7_make s m args below meth c H locs cells slots (vx_MQ below (gQ G (PI Φ)) (gX G Ψ) args s rm_X7_make.cells rm_X7_make.slots (Ab G.b)) (F0 m 0 ls []) := by
  intro S H locs ls cells slots h hO hS hl hcc hss
  unfold wX7_make_b0 at h
  refine lv_aload_n C0.1 C0.2.1 dX7_make_0 rfl (lv_at hl 0 rfl) ?_
  refine lv_iload_n C0.1 C0.2.1 dX7_make_1 rfl (lv_at hl 1 rfl) ?_
  obtain ⟨i3, h⟩ := h
  refine x_V C0 Y.2 hx9 hO hS (mX7_camAt hl9 h) i3 (by decide) rfl rfl tb_1019 tb_1021 tb_30 tb_74 tb_1022 hd_X7_camAt rfl ⟨⟨by decide, by decide⟩, by show _ + 1 ≤ 4; omega, by show _ + 6 ≤ 24; omega⟩ hl.1 rfl (Nat.le_of_ble_eq_true rfl) dX7_make_2 (by show _ + 1 ≤ 4; omega) (by show _ + 6 ≤ 24; omega) (kR (fun r2 S1 H locs h hO hS => ?_))
  change W _ _ _ _ _ _ _ _ _ _ _ _ (_ + 1) (_ + 6) _ _
  obtain ⟨a4, ea4, h⟩ := h
  subst ea4
  change W _ _ _ _ _ _ _ _ _ _ _ _ _ _ _ (F0 _ _ _ (.ref a4 :: _))
  refine lv_astore C0.1 C0.2.1 dX7_make_5 hl (by decide) rfl (fun ls hl => ?_)
  refine lv_iload_n C0.1 C0.2.1 dX7_make_7 rfl (lv_at hl 3 rfl) ?_
  refine x_S C0 Y.2 hx9 hO hS (mX7_checkLaw hl9 h) tb_1024 tb_1025 tb_74 tb_1026 hd_X7_checkLaw rfl ⟨⟨by decide, by decide⟩, by show _ + 1 ≤ 4; omega, by show _ + 6 ≤ 24; omega⟩ hl.1 rfl (Nat.le_of_ble_eq_true rfl) dX7_make_8 (by show _ + 1 ≤ 4; omega) (by show _ + 6 ≤ 24; omega) (kV (fun S5 H locs h hO hS => ?_))
  change W _ _ _ _ _ _ _ _ _ _ _ _ (_ + 1) (_ + 6) _ _
  refine lv_iload_n C0.1 C0.2.1 dX7_make_11 rfl (lv_at hl 4 rfl) ?_
  refine lv_iconst (v := 1) C0.1 C0.2.1 dX7_make_12 (by decide) ?_
  refine lv_bipush (v := 99) C0.1 C0.2.1 dX7_make_13 (by decide) ?_
  refine x_S C0 Y.2 hx9 hO hS (mX7_checkRange hl9 h) tb_758 tb_759 tb_74 tb_760 hd_X7_checkRange rfl ⟨⟨by decide, by decide⟩, by show _ + 1 ≤ 4; omega, by show _ + 6 ≤ 24; omega⟩ hl.1 rfl (Nat.le_of_ble_eq_true rfl) dX7_make_15 (by show _ + 1 ≤ 4; omega) (by show _ + 6 ≤ 24; omega) (kV (fun S6 H locs h hO hS => ?_))
  change W _ _ _ _ _ _ _ _ _ _ _ _ (_ + 1) (_ + 6) _ _
  refine lv_aload C0.1 C0.2.1 dX7_make_18 (lv_at hl 0 rfl) ?_
  obtain ⟨i7, h⟩ := h
  obtain ⟨a8, ea8, h⟩ := h
  refine g1_4 C0 hO i7 ea8 tb_991 dX7_make_20 ?_
  refine lv_iconst (v := 0) C0.1 C0.2.1 dX7_make_23 (by decide) ?_
  obtain ⟨i9, h⟩ := h
  obtain ⟨e10, h⟩ := h
  refine r_iald C0 hO i9 e10 dX7_make_24 ?_
  refine lv_iconst (v := (-1)) C0.1 C0.2.1 dX7_make_25 (by decide) ?_
  refine lv_icmp_ne (tgt := 40) C0.1 C0.2.1 dX7_make_26 (by decide) (fun c11 => ?_) (fun c11 => ?_)
  · have h := h.1 c11
    refine lv_aload C0.1 C0.2.1 dX7_make_40 (lv_at hl 0 rfl) ?_
    refine lv_iload_n C0.1 C0.2.1 dX7_make_42 rfl (lv_at hl 3 rfl) ?_
    refine lv_iload_n C0.1 C0.2.1 dX7_make_43 rfl (lv_at hl 4 rfl) ?_
    refine c_V C0 hO hS (mX1_areWishesSteeper h) i7 (by decide) rfl rfl tb_1109 tb_1110 tb_1111 tb_99 tb_1112 hd_X1_areWishesSteeper rfl ⟨⟨by decide, by decide⟩, by show _ + 0 ≤ 4; omega, by show _ + 0 ≤ 24; omega⟩ hl.1 rfl (Nat.le_of_ble_eq_true rfl) dX7_make_44 (kI (fun r13 S12 H locs h hO hS => ?_))
    change W _ _ _ _ _ _ _ _ _ _ _ _ (_ + 0) (_ + 0) _ _
    refine lv_if_eq (tgt := 61) C0.1 C0.2.1 dX7_make_47 (by decide) (fun c14 => ?_) (fun c14 => ?_)
    · have h := h.1 c14
      refine lv_aload C0.1 C0.2.1 dX7_make_61 (lv_at hl 0 rfl) ?_
      refine lv_iload_n C0.1 C0.2.1 dX7_make_63 rfl (lv_at hl 3 rfl) ?_
      obtain ⟨i16, h⟩ := h
      refine c_V C0 hO hS (mX1_followWishes h) i16 (by decide) rfl rfl tb_1122 tb_1123 tb_1124 tb_99 tb_1125 hd_X1_followWishes rfl ⟨⟨by decide, by decide⟩, by show _ + 0 ≤ 4; omega, by show _ + 0 ≤ 24; omega⟩ hl.1 rfl (Nat.le_of_ble_eq_true rfl) dX7_make_64 (kV (fun S15 H locs h hO hS => ?_))
      change W _ _ _ _ _ _ _ _ _ _ _ _ (_ + 0) (_ + 0) _ _
      refine lv_aload C0.1 C0.2.1 dX7_make_67 (lv_at hl 0 rfl) ?_
      obtain ⟨i17, h⟩ := h
      refine g1_5 C0 hO i17 tb_993 dX7_make_69 ?_
      refine vx_ret ?_
      exact e_I C0 Y hO hS h (by show _ ≤ 4; omega) (by show _ ≤ 24; omega) dX7_make_72
    · have h := h.2 c14
      exact t_W (text := "the cam would be steeper") (names := xnm) C0 hl9 Y.2 hx9 hO hS xf_UnsupportedOperationException xnm_ok tb_602 tb_90 (by decide +kernel) xat_100 xgd_10000096 hl.1 h dX7_make_50 dX7_make_53 dX7_make_54 dX7_make_57 dX7_make_60 (Nat.le_of_ble_eq_true rfl) (Nat.le_of_ble_eq_true rfl) (by show _ ≤ 4; omega) (by show _ ≤ 24; omega) (by show _ ≤ 4; omega) (by show _ ≤ 24; omega)
  · have h := h.2 c11
    exact t_NW (text := "the part 0 is not wished") C0 hl9 Y.2 hx9 hO hS tb_905 tb_98 (by decide +kernel) hl.1 h dX7_make_29 dX7_make_32 dX7_make_33 dX7_make_36 dX7_make_39 (Nat.le_of_ble_eq_true rfl) (Nat.le_of_ble_eq_true rfl) (by show _ ≤ 4; omega) (by show _ ≤ 24; omega) (by show _ ≤ 4; omega) (by show _ ≤ 24; omega)
def wX7_make (S : Hp) (x0 : Nat) (x1 : Int32) (x2 : Int32) (x3 : Int32) (Φ : Hp → Int32 → Prop) (Ψ : Hp → String → Prop) : Prop := wX7_make_b0 x0 x1 x2 x3 Φ Ψ S
set_option maxRecDepth 100000 in
theorem mX7_make {l : Launch} {G : Gw} (hl9 : l.stackTraces = false) {S : Hp} {x0 : Nat} {x1 : Int32} {x2 : Int32} {x3 : Int32} {Φ : Hp → Int32 → Prop} {Ψ : Hp → String → Prop} (h : wX7_make S x0 x1 x2 x3 Φ Ψ) : gT l yX7_make cX7_make 5 (some .int) rm_X7_make [.ref x0, .int x1, .int x2, .int x3] G S (PI Φ) Ψ := by
  unfold gT
  refine vx_ofW (cc := cX7_make) (maxL := 5) (ret := (some .int)) (by decide) rfl ?_
  intro p e s m args below meth c s₁ B hml hx9 hv
  obtain ⟨rfl, hw⟩ := hv
  obtain ⟨C0, Y, hO⟩ := mx_of B hml hw
  have hS : va_S (Ab G.b) s.heap s.heap [] := va_S.rf
  have hl := lv_entry ([.ref x0, .int x1, .int x2, .int x3]) (n := 5) (Nat.le_of_ble_eq_true rfl)
  rw [lg_entry_eq]
  generalize (lg_sl ([.ref x0, .int x1, .int x2, .int x3]) ++ List.replicate (5 - (lg_sl ([.ref x0, .int x1, .int x2, .int x3])).length) Slot.unset).toArray = ls at hl ⊢
  have hl : lv_has ls 5 [(0, .ref x0), (1, .int x1), (2, .int x2), (3, .int x3)] := hl
  exact bX7_make_b0 C0 Y hl9 hx9 S _ _ _ 0 0 h hO hS hl (by decide) (by decide)

def rm_X7_drum : Room := { frames := 7, cells := 5, slots := 65, locals := 191 }
def wX7_drum_b0 (x0 : Nat) (x1 : Int32) (Φ : Hp → Int32 → Prop) (Ψ : Hp → String → Prop) (S : Hp) : Prop := isA S x0 7 ∧ wX7_checkShaft S x0 x1 (fun S1 => isA S1 x0 7 ∧ ∃ a4, S1.FR 451 x0 = some a4 ∧ isA S1 a4 9 ∧ wJx4a65c_size_8abf5 S1 a4 (fun S5 r6 => ((r6 < 4 → isA S5 x0 7 ∧ ∃ a10, S5.FR 451 x0 = some a10 ∧ ∀ a11 S12, a11 ∉ S5.L → S12 = S5.new a11 2 0 → wX2_init S12 a11 x1 (fun S13 => isA S13 a10 9 ∧ wJx4a65c_add_9ea2d S13 a10 a11 (fun S14 r15 => isA S14 x0 7 ∧ ∃ a18, S14.FR 451 x0 = some a18 ∧ isA S14 a18 9 ∧ wJx4a65c_size_8abf5 S14 a18 (fun S19 r20 => Φ S19 (r20 - 1))))) ∧ (¬ (r6 < 4) → Ψ S5 "java/lang/IllegalStateException")))) Ψ
set_option maxHeartbeats 4000000 in
set_option maxRecDepth 100000 in
theorem bX7_drum_b0 {p : Program} {l : Launch} {e : Env} {s : State} {m : MethodId} {args : Array Value} {below : List Frame} {meth : Method} {c : Code} {G : Gw} {x0 : Nat} {x1 : Int32} {Φ : Hp → Int32 → Prop} {Ψ : Hp → String → Prop} (C0 : Mx p s m c cX7_drum 2 args yX7_drum.cls G) (Y : My meth (some .int)) (hl9 : l.stackTraces = false) (hx9 : ∀ x ∈ c.exceptionTable.toList, False)  : ∀ (S : Hp) (H : Heap) (locs : List Loc) (ls : Array Slot) (cells slots : Nat), wX7_drum_b0 x0 x1 Φ Ψ S → Ok G S H → va_S (Ab G.b) s.heap H locs → lv_has ls 2 [(0, .ref x0), (1, .int x1)] → cells + (5) ≤ 5 → slots + (65) ≤ 65 → W p l e rm_X7_drum s m args below meth c H locs cells slots (vx_MQ below (gQ G (PI Φ)) (gX G Ψ) args s rm_X7_drum.cells rm_X7_drum.slots (Ab G.b)) (F0 m 0 ls []) := by
  intro S H locs ls cells slots h hO hS hl hcc hss
  unfold wX7_drum_b0 at h
  refine lv_aload_n C0.1 C0.2.1 dX7_drum_0 rfl (lv_at hl 0 rfl) ?_
  refine lv_iload_n C0.1 C0.2.1 dX7_drum_1 rfl (lv_at hl 1 rfl) ?_
  obtain ⟨i2, h⟩ := h
  refine x_V C0 Y.2 hx9 hO hS (mX7_checkShaft hl9 h) i2 (by decide) rfl rfl tb_563 tb_565 tb_12 tb_74 tb_566 hd_X7_checkShaft rfl ⟨⟨by decide, by decide⟩, by show _ + 1 ≤ 5; omega, by show _ + 6 ≤ 65; omega⟩ hl.1 rfl (Nat.le_of_ble_eq_true rfl) dX7_drum_2 (by show _ + 1 ≤ 5; omega) (by show _ + 6 ≤ 65; omega) (kV (fun S1 H locs h hO hS => ?_))
  change W _ _ _ _ _ _ _ _ _ _ _ _ (_ + 1) (_ + 6) _ _
  refine lv_aload_n C0.1 C0.2.1 dX7_drum_5 rfl (lv_at hl 0 rfl) ?_
  obtain ⟨i3, h⟩ := h
  obtain ⟨a4, ea4, h⟩ := h
  refine g7_3 C0 hO i3 ea4 tb_189 dX7_drum_6 ?_
  obtain ⟨i7, h⟩ := h
  refine c_V C0 hO hS (mJx4a65c_size_8abf5 h) i7 (by decide) rfl rfl tb_261 tb_262 tb_263 tb_77 tb_264 hd_Jx4a65c_size_8abf5 rfl ⟨⟨by decide, by decide⟩, by show _ + 0 ≤ 5; omega, by show _ + 0 ≤ 65; omega⟩ hl.1 rfl (Nat.le_of_ble_eq_true rfl) dX7_drum_9 (kI (fun r6 S5 H locs h hO hS => ?_))
  change W _ _ _ _ _ _ _ _ _ _ _ _ (_ + 0) (_ + 0) _ _
  refine lv_iconst (v := 4) C0.1 C0.2.1 dX7_drum_12 (by decide) ?_
  refine lv_icmp_lt (tgt := 27) C0.1 C0.2.1 dX7_drum_13 (by decide) (fun c8 => ?_) (fun c8 => ?_)
  · have h := h.1 c8
    refine lv_aload_n C0.1 C0.2.1 dX7_drum_27 rfl (lv_at hl 0 rfl) ?_
    obtain ⟨i9, h⟩ := h
    obtain ⟨a10, ea10, h⟩ := h
    refine g7_3 C0 hO i9 ea10 tb_189 dX7_drum_28 ?_
    refine n_2 C0 hO hS tb_279 tb_841 tb_100 (by show _ ≤ 5; omega) (by show _ ≤ 65; omega) dX7_drum_31 (fun a11 H hna11 hO hS => ?_)
    have h := h a11 _ hna11 rfl
    refine lv_dup C0.1 C0.2.1 dX7_drum_34 rfl ?_
    refine lv_iload_n C0.1 C0.2.1 dX7_drum_35 rfl (lv_at hl 1 rfl) ?_
    refine c_I C0 hO hS (mX2_init h) tb_1136 tb_1137 tb_100 tb_1138 rfl hd_X2_init rfl ⟨⟨by decide, by decide⟩, by show _ + 2 ≤ 5; omega, by show _ + 32 ≤ 65; omega⟩ hl.1 rfl (Nat.le_of_ble_eq_true rfl) dX7_drum_36 (kV (fun S13 H locs h hO hS => ?_))
    change W _ _ _ _ _ _ _ _ _ _ _ _ (_ + 2) (_ + 32) _ _
    obtain ⟨i16, h⟩ := h
    refine c_V C0 hO hS (mJx4a65c_add_9ea2d h) i16 (by decide) rfl rfl tb_677 tb_678 tb_679 tb_77 tb_680 hd_Jx4a65c_add_9ea2d rfl ⟨⟨by decide, by decide⟩, by show _ + 1 ≤ 5; omega, by show _ + 24 ≤ 65; omega⟩ hl.1 rfl (Nat.le_of_ble_eq_true rfl) dX7_drum_39 (kI (fun r15 S14 H locs h hO hS => ?_))
    change W _ _ _ _ _ _ _ _ _ _ _ _ (_ + 1) (_ + 24) _ _
    refine lv_pop C0.1 C0.2.1 dX7_drum_42 rfl ?_
    refine lv_aload_n C0.1 C0.2.1 dX7_drum_43 rfl (lv_at hl 0 rfl) ?_
    obtain ⟨i17, h⟩ := h
    obtain ⟨a18, ea18, h⟩ := h
    refine g7_3 C0 hO i17 ea18 tb_189 dX7_drum_44 ?_
    obtain ⟨i21, h⟩ := h
    refine c_V C0 hO hS (mJx4a65c_size_8abf5 h) i21 (by decide) rfl rfl tb_261 tb_262 tb_263 tb_77 tb_264 hd_Jx4a65c_size_8abf5 rfl ⟨⟨by decide, by decide⟩, by show _ + 0 ≤ 5; omega, by show _ + 0 ≤ 65; omega⟩ hl.1 rfl (Nat.le_of_ble_eq_true rfl) dX7_drum_47 (kI (fun r20 S19 H locs h hO hS => ?_))
    change W _ _ _ _ _ _ _ _ _ _ _ _ (_ + 0) (_ + 0) _ _
    refine lv_iconst (v := 1) C0.1 C0.2.1 dX7_drum_50 (by decide) ?_
    refine lv_isub C0.1 C0.2.1 dX7_drum_51 ?_
    refine vx_ret ?_
    exact e_I C0 Y hO hS h (by show _ ≤ 5; omega) (by show _ ≤ 65; omega) dX7_drum_52
  · have h := h.2 c8
    exact t_W (text := "there are 4 drums") (names := xnm) C0 hl9 Y.2 hx9 hO hS xf_IllegalStateException xnm_ok tb_458 tb_85 (by decide +kernel) xat_81 xgd_8100077 hl.1 h dX7_drum_16 dX7_drum_19 dX7_drum_20 dX7_drum_23 dX7_drum_26 (Nat.le_of_ble_eq_true rfl) (Nat.le_of_ble_eq_true rfl) (by show _ ≤ 5; omega) (by show _ ≤ 65; omega) (by show _ ≤ 5; omega) (by show _ ≤ 65; omega)
def wX7_drum (S : Hp) (x0 : Nat) (x1 : Int32) (Φ : Hp → Int32 → Prop) (Ψ : Hp → String → Prop) : Prop := wX7_drum_b0 x0 x1 Φ Ψ S
set_option maxRecDepth 100000 in
theorem mX7_drum {l : Launch} {G : Gw} (hl9 : l.stackTraces = false) {S : Hp} {x0 : Nat} {x1 : Int32} {Φ : Hp → Int32 → Prop} {Ψ : Hp → String → Prop} (h : wX7_drum S x0 x1 Φ Ψ) : gT l yX7_drum cX7_drum 2 (some .int) rm_X7_drum [.ref x0, .int x1] G S (PI Φ) Ψ := by
  unfold gT
  refine vx_ofW (cc := cX7_drum) (maxL := 2) (ret := (some .int)) (by decide) rfl ?_
  intro p e s m args below meth c s₁ B hml hx9 hv
  obtain ⟨rfl, hw⟩ := hv
  obtain ⟨C0, Y, hO⟩ := mx_of B hml hw
  have hS : va_S (Ab G.b) s.heap s.heap [] := va_S.rf
  have hl := lv_entry ([.ref x0, .int x1]) (n := 2) (Nat.le_of_ble_eq_true rfl)
  rw [lg_entry_eq]
  generalize (lg_sl ([.ref x0, .int x1]) ++ List.replicate (2 - (lg_sl ([.ref x0, .int x1])).length) Slot.unset).toArray = ls at hl ⊢
  have hl : lv_has ls 2 [(0, .ref x0), (1, .int x1)] := hl
  exact bX7_drum_b0 C0 Y hl9 hx9 S _ _ _ 0 0 h hO hS hl (by decide) (by decide)

def rm_X7_drumAt : Room := { frames := 6, cells := 1, slots := 6, locals := 90 }
def wX7_drumAt_b15 (x0 : Nat) (x1 : Int32) (Φ : Hp → Option Nat → Prop) (Ψ : Hp → String → Prop) (S : Hp) : Prop := Ψ S "java/lang/IndexOutOfBoundsException"
set_option maxHeartbeats 4000000 in
set_option maxRecDepth 100000 in
theorem bX7_drumAt_b15 {p : Program} {l : Launch} {e : Env} {s : State} {m : MethodId} {args : Array Value} {below : List Frame} {meth : Method} {c : Code} {G : Gw} {x0 : Nat} {x1 : Int32} {Φ : Hp → Option Nat → Prop} {Ψ : Hp → String → Prop} (C0 : Mx p s m c cX7_drumAt 2 args yX7_drumAt.cls G) (Y : My meth (some (.object "Linkwright$Drum"))) (hl9 : l.stackTraces = false) (hx9 : ∀ x ∈ c.exceptionTable.toList, False)  : ∀ (S : Hp) (H : Heap) (locs : List Loc) (ls : Array Slot) (cells slots : Nat), wX7_drumAt_b15 x0 x1 Φ Ψ S → Ok G S H → va_S (Ab G.b) s.heap H locs → lv_has ls 2 [(0, .ref x0), (1, .int x1)] → cells + (1) ≤ 1 → slots + (6) ≤ 6 → W p l e rm_X7_drumAt s m args below meth c H locs cells slots (vx_MQ below (gQ G (PR Φ)) (gX G Ψ) args s rm_X7_drumAt.cells rm_X7_drumAt.slots (Ab G.b)) (F0 m 15 ls []) := by
  intro S H locs ls cells slots h hO hS hl hcc hss
  unfold wX7_drumAt_b15 at h
  exact t_W (text := "no such drum") (names := xnm) C0 hl9 Y.2 hx9 hO hS xf_IndexOutOfBoundsException xnm_ok tb_567 tb_86 (by decide +kernel) xat_368 xgd_36800364 hl.1 h dX7_drumAt_15 dX7_drumAt_18 dX7_drumAt_19 dX7_drumAt_22 dX7_drumAt_25 (Nat.le_of_ble_eq_true rfl) (Nat.le_of_ble_eq_true rfl) (by show _ ≤ 1; omega) (by show _ ≤ 6; omega) (by show _ ≤ 1; omega) (by show _ ≤ 6; omega)
def wX7_drumAt_b0 (x0 : Nat) (x1 : Int32) (Φ : Hp → Option Nat → Prop) (Ψ : Hp → String → Prop) (S : Hp) : Prop := ((x1 < 0 → wX7_drumAt_b15 x0 x1 Φ Ψ S) ∧ (¬ (x1 < 0) → isA S x0 7 ∧ ∃ a3, S.FR 451 x0 = some a3 ∧ isA S a3 9 ∧ wJx4a65c_size_8abf5 S a3 (fun S4 r5 => ((x1 < r5 → isA S4 x0 7 ∧ ∃ a9, S4.FR 451 x0 = some a9 ∧ isA S4 a9 9 ∧ wJx4a65c_get_915e3 S4 a9 x1 (fun S10 r11 => ∃ a13, r11 = some a13 ∧ isA S10 a13 2 ∧ Φ S10 (some a13))) ∧ (¬ (x1 < r5) → wX7_drumAt_b15 x0 x1 Φ Ψ S4)))))
set_option maxHeartbeats 4000000 in
set_option maxRecDepth 100000 in
theorem bX7_drumAt_b0 {p : Program} {l : Launch} {e : Env} {s : State} {m : MethodId} {args : Array Value} {below : List Frame} {meth : Method} {c : Code} {G : Gw} {x0 : Nat} {x1 : Int32} {Φ : Hp → Option Nat → Prop} {Ψ : Hp → String → Prop} (C0 : Mx p s m c cX7_drumAt 2 args yX7_drumAt.cls G) (Y : My meth (some (.object "Linkwright$Drum"))) (hl9 : l.stackTraces = false) (hx9 : ∀ x ∈ c.exceptionTable.toList, False)  : ∀ (S : Hp) (H : Heap) (locs : List Loc) (ls : Array Slot) (cells slots : Nat), wX7_drumAt_b0 x0 x1 Φ Ψ S → Ok G S H → va_S (Ab G.b) s.heap H locs → lv_has ls 2 [(0, .ref x0), (1, .int x1)] → cells + (1) ≤ 1 → slots + (6) ≤ 6 → W p l e rm_X7_drumAt s m args below meth c H locs cells slots (vx_MQ below (gQ G (PR Φ)) (gX G Ψ) args s rm_X7_drumAt.cells rm_X7_drumAt.slots (Ab G.b)) (F0 m 0 ls []) := by
  intro S H locs ls cells slots h hO hS hl hcc hss
  unfold wX7_drumAt_b0 at h
  refine lv_iload_n C0.1 C0.2.1 dX7_drumAt_0 rfl (lv_at hl 1 rfl) ?_
  refine lv_if_lt (tgt := 15) C0.1 C0.2.1 dX7_drumAt_1 (by decide) (fun c1 => ?_) (fun c1 => ?_)
  · have h := h.1 c1
    exact bX7_drumAt_b15 C0 Y hl9 hx9 _ _ _ _ _ _ h hO hS (lv_sub hl [0, 1] rfl) (by omega) (by omega)
  · have h := h.2 c1
    refine lv_iload_n C0.1 C0.2.1 dX7_drumAt_4 rfl (lv_at hl 1 rfl) ?_
    refine lv_aload_n C0.1 C0.2.1 dX7_drumAt_5 rfl (lv_at hl 0 rfl) ?_
    obtain ⟨i2, h⟩ := h
    obtain ⟨a3, ea3, h⟩ := h
    refine g7_3 C0 hO i2 ea3 tb_189 dX7_drumAt_6 ?_
    obtain ⟨i6, h⟩ := h
    refine c_V C0 hO hS (mJx4a65c_size_8abf5 h) i6 (by decide) rfl rfl tb_261 tb_262 tb_263 tb_77 tb_264 hd_Jx4a65c_size_8abf5 rfl ⟨⟨by decide, by decide⟩, by show _ + 0 ≤ 1; omega, by show _ + 0 ≤ 6; omega⟩ hl.1 rfl (Nat.le_of_ble_eq_true rfl) dX7_drumAt_9 (kI (fun r5 S4 H locs h hO hS => ?_))
    change W _ _ _ _ _ _ _ _ _ _ _ _ (_ + 0) (_ + 0) _ _
    refine lv_icmp_lt (tgt := 26) C0.1 C0.2.1 dX7_drumAt_12 (by decide) (fun c7 => ?_) (fun c7 => ?_)
    · have h := h.1 c7
      refine lv_aload_n C0.1 C0.2.1 dX7_drumAt_26 rfl (lv_at hl 0 rfl) ?_
      obtain ⟨i8, h⟩ := h
      obtain ⟨a9, ea9, h⟩ := h
      refine g7_3 C0 hO i8 ea9 tb_189 dX7_drumAt_27 ?_
      refine lv_iload_n C0.1 C0.2.1 dX7_drumAt_30 rfl (lv_at hl 1 rfl) ?_
      obtain ⟨i12, h⟩ := h
      refine c_V C0 hO hS (mJx4a65c_get_915e3 h) i12 (by decide) rfl rfl tb_265 tb_266 tb_267 tb_77 tb_268 hd_Jx4a65c_get_915e3 rfl ⟨⟨by decide, by decide⟩, by show _ + 0 ≤ 1; omega, by show _ + 0 ≤ 6; omega⟩ hl.1 rfl (Nat.le_of_ble_eq_true rfl) dX7_drumAt_31 (kR (fun r11 S10 H locs h hO hS => ?_))
      change W _ _ _ _ _ _ _ _ _ _ _ _ (_ + 0) (_ + 0) _ _
      obtain ⟨a13, ea13, h⟩ := h
      subst ea13
      change W _ _ _ _ _ _ _ _ _ _ _ _ _ _ _ (F0 _ _ _ (.ref a13 :: _))
      obtain ⟨i14, h⟩ := h
      refine r_castO C0 hO i14 (by decide) rfl tb_279 dX7_drumAt_34 ?_
      refine vx_ret ?_
      exact e_R (v := some a13) C0 Y (Or.inl ⟨_, rfl⟩) hO hS h (by show _ ≤ 1; omega) (by show _ ≤ 6; omega) dX7_drumAt_37
    · have h := h.2 c7
      exact bX7_drumAt_b15 C0 Y hl9 hx9 _ _ _ _ _ _ h hO hS (lv_sub hl [0, 1] rfl) (by omega) (by omega)
def wX7_drumAt (S : Hp) (x0 : Nat) (x1 : Int32) (Φ : Hp → Option Nat → Prop) (Ψ : Hp → String → Prop) : Prop := wX7_drumAt_b0 x0 x1 Φ Ψ S
set_option maxRecDepth 100000 in
theorem mX7_drumAt {l : Launch} {G : Gw} (hl9 : l.stackTraces = false) {S : Hp} {x0 : Nat} {x1 : Int32} {Φ : Hp → Option Nat → Prop} {Ψ : Hp → String → Prop} (h : wX7_drumAt S x0 x1 Φ Ψ) : gT l yX7_drumAt cX7_drumAt 2 (some (.object "Linkwright$Drum")) rm_X7_drumAt [.ref x0, .int x1] G S (PR Φ) Ψ := by
  unfold gT
  refine vx_ofW (cc := cX7_drumAt) (maxL := 2) (ret := (some (.object "Linkwright$Drum"))) (by decide) rfl ?_
  intro p e s m args below meth c s₁ B hml hx9 hv
  obtain ⟨rfl, hw⟩ := hv
  obtain ⟨C0, Y, hO⟩ := mx_of B hml hw
  have hS : va_S (Ab G.b) s.heap s.heap [] := va_S.rf
  have hl := lv_entry ([.ref x0, .int x1]) (n := 2) (Nat.le_of_ble_eq_true rfl)
  rw [lg_entry_eq]
  generalize (lg_sl ([.ref x0, .int x1]) ++ List.replicate (2 - (lg_sl ([.ref x0, .int x1])).length) Slot.unset).toArray = ls at hl ⊢
  have hl : lv_has ls 2 [(0, .ref x0), (1, .int x1)] := hl
  exact bX7_drumAt_b0 C0 Y hl9 hx9 S _ _ _ 0 0 h hO hS hl (by decide) (by decide)

def rm_X7_pin : Room := { frames := 7, cells := 3, slots := 18, locals := 112 }
def wX7_pin_b0 (x0 : Nat) (x1 : Int32) (x2 : Int32) (x3 : Int32) (x4 : Int32) (Φ : Hp → Int32 → Prop) (Ψ : Hp → String → Prop) (S : Hp) : Prop := isA S x0 7 ∧ wX7_drumAt S x0 x1 (fun S1 r2 => ∃ a4, r2 = some a4 ∧ wX7_checkRange S1 x2 0 23 (fun S5 => wX7_checkRange S5 x3 0 7 (fun S6 => isA S6 a4 2 ∧ wX2_setPin S6 a4 x2 x3 x4 (fun S7 r8 => narrow .boolean (.int r8) = .int r8 ∧ Φ S7 r8)) Ψ) Ψ) Ψ
set_option maxHeartbeats 4000000 in
set_option maxRecDepth 100000 in
theorem bX7_pin_b0 {p : Program} {l : Launch} {e : Env} {s : State} {m : MethodId} {args : Array Value} {below : List Frame} {meth : Method} {c : Code} {G : Gw} {x0 : Nat} {x1 : Int32} {x2 : Int32} {x3 : Int32} {x4 : Int32} {Φ : Hp → Int32 → Prop} {Ψ : Hp → String → Prop} (C0 : Mx p s m c cX7_pin 6 args yX7_pin.cls G) (Y : My meth (some .boolean)) (hl9 : l.stackTraces = false) (hx9 : ∀ x ∈ c.exceptionTable.toList, False)  : ∀ (S : Hp) (H : Heap) (locs : List Loc) (ls : Array Slot) (cells slots : Nat), wX7_pin_b0 x0 x1 x2 x3 x4 Φ Ψ S → Ok G S H → va_S (Ab G.b) s.heap H locs → lv_has ls 6 [(0, .ref x0), (1, .int x1), (2, .int x2), (3, .int x3), (4, .int x4)] → cells + (3) ≤ 3 → slots + (18) ≤ 18 → W p l e rm_X7_pin s m args below meth c H locs cells slots (vx_MQ below (gQ G (PI Φ)) (gX G Ψ) args s rm_X7_pin.cells rm_X7_pin.slots (Ab G.b)) (F0 m 0 ls []) := by
  intro S H locs ls cells slots h hO hS hl hcc hss
  unfold wX7_pin_b0 at h
  refine lv_aload_n C0.1 C0.2.1 dX7_pin_0 rfl (lv_at hl 0 rfl) ?_
  refine lv_iload_n C0.1 C0.2.1 dX7_pin_1 rfl (lv_at hl 1 rfl) ?_
  obtain ⟨i3, h⟩ := h
  refine x_V C0 Y.2 hx9 hO hS (mX7_drumAt hl9 h) i3 (by decide) rfl rfl tb_1159 tb_1161 tb_35 tb_74 tb_1162 hd_X7_drumAt rfl ⟨⟨by decide, by decide⟩, by show _ + 1 ≤ 3; omega, by show _ + 6 ≤ 18; omega⟩ hl.1 rfl (Nat.le_of_ble_eq_true rfl) dX7_pin_2 (by show _ + 1 ≤ 3; omega) (by show _ + 6 ≤ 18; omega) (kR (fun r2 S1 H locs h hO hS => ?_))
  change W _ _ _ _ _ _ _ _ _ _ _ _ (_ + 1) (_ + 6) _ _
  obtain ⟨a4, ea4, h⟩ := h
  subst ea4
  change W _ _ _ _ _ _ _ _ _ _ _ _ _ _ _ (F0 _ _ _ (.ref a4 :: _))
  refine lv_astore C0.1 C0.2.1 dX7_pin_5 hl (by decide) rfl (fun ls hl => ?_)
  refine lv_iload_n C0.1 C0.2.1 dX7_pin_7 rfl (lv_at hl 3 rfl) ?_
  refine lv_iconst (v := 0) C0.1 C0.2.1 dX7_pin_8 (by decide) ?_
  refine lv_bipush (v := 23) C0.1 C0.2.1 dX7_pin_9 (by decide) ?_
  refine x_S C0 Y.2 hx9 hO hS (mX7_checkRange hl9 h) tb_758 tb_759 tb_74 tb_760 hd_X7_checkRange rfl ⟨⟨by decide, by decide⟩, by show _ + 1 ≤ 3; omega, by show _ + 6 ≤ 18; omega⟩ hl.1 rfl (Nat.le_of_ble_eq_true rfl) dX7_pin_11 (by show _ + 1 ≤ 3; omega) (by show _ + 6 ≤ 18; omega) (kV (fun S5 H locs h hO hS => ?_))
  change W _ _ _ _ _ _ _ _ _ _ _ _ (_ + 1) (_ + 6) _ _
  refine lv_iload_n C0.1 C0.2.1 dX7_pin_14 rfl (lv_at hl 4 rfl) ?_
  refine lv_iconst (v := 0) C0.1 C0.2.1 dX7_pin_15 (by decide) ?_
  refine lv_bipush (v := 7) C0.1 C0.2.1 dX7_pin_16 (by decide) ?_
  refine x_S C0 Y.2 hx9 hO hS (mX7_checkRange hl9 h) tb_758 tb_759 tb_74 tb_760 hd_X7_checkRange rfl ⟨⟨by decide, by decide⟩, by show _ + 1 ≤ 3; omega, by show _ + 6 ≤ 18; omega⟩ hl.1 rfl (Nat.le_of_ble_eq_true rfl) dX7_pin_18 (by show _ + 1 ≤ 3; omega) (by show _ + 6 ≤ 18; omega) (kV (fun S6 H locs h hO hS => ?_))
  change W _ _ _ _ _ _ _ _ _ _ _ _ (_ + 1) (_ + 6) _ _
  refine lv_aload C0.1 C0.2.1 dX7_pin_21 (lv_at hl 0 rfl) ?_
  refine lv_iload_n C0.1 C0.2.1 dX7_pin_23 rfl (lv_at hl 3 rfl) ?_
  refine lv_iload_n C0.1 C0.2.1 dX7_pin_24 rfl (lv_at hl 4 rfl) ?_
  refine lv_iload C0.1 C0.2.1 dX7_pin_25 (lv_at hl 5 rfl) ?_
  obtain ⟨i9, h⟩ := h
  refine c_V C0 hO hS (mX2_setPin h) i9 (by decide) rfl rfl tb_1164 tb_1165 tb_1166 tb_100 tb_1167 hd_X2_setPin rfl ⟨⟨by decide, by decide⟩, by show _ + 0 ≤ 3; omega, by show _ + 0 ≤ 18; omega⟩ hl.1 rfl (Nat.le_of_ble_eq_true rfl) dX7_pin_27 (kI (fun r8 S7 H locs h hO hS => ?_))
  change W _ _ _ _ _ _ _ _ _ _ _ _ (_ + 0) (_ + 0) _ _
  refine vx_ret ?_
  exact e_Z C0 Y hO hS h.1 h.2 (by show _ ≤ 3; omega) (by show _ ≤ 18; omega) dX7_pin_30
def wX7_pin (S : Hp) (x0 : Nat) (x1 : Int32) (x2 : Int32) (x3 : Int32) (x4 : Int32) (Φ : Hp → Int32 → Prop) (Ψ : Hp → String → Prop) : Prop := wX7_pin_b0 x0 x1 x2 x3 x4 Φ Ψ S
set_option maxRecDepth 100000 in
theorem mX7_pin {l : Launch} {G : Gw} (hl9 : l.stackTraces = false) {S : Hp} {x0 : Nat} {x1 : Int32} {x2 : Int32} {x3 : Int32} {x4 : Int32} {Φ : Hp → Int32 → Prop} {Ψ : Hp → String → Prop} (h : wX7_pin S x0 x1 x2 x3 x4 Φ Ψ) : gT l yX7_pin cX7_pin 6 (some .boolean) rm_X7_pin [.ref x0, .int x1, .int x2, .int x3, .int x4] G S (PI Φ) Ψ := by
  unfold gT
  refine vx_ofW (cc := cX7_pin) (maxL := 6) (ret := (some .boolean)) (by decide) rfl ?_
  intro p e s m args below meth c s₁ B hml hx9 hv
  obtain ⟨rfl, hw⟩ := hv
  obtain ⟨C0, Y, hO⟩ := mx_of B hml hw
  have hS : va_S (Ab G.b) s.heap s.heap [] := va_S.rf
  have hl := lv_entry ([.ref x0, .int x1, .int x2, .int x3, .int x4]) (n := 6) (Nat.le_of_ble_eq_true rfl)
  rw [lg_entry_eq]
  generalize (lg_sl ([.ref x0, .int x1, .int x2, .int x3, .int x4]) ++ List.replicate (6 - (lg_sl ([.ref x0, .int x1, .int x2, .int x3, .int x4])).length) Slot.unset).toArray = ls at hl ⊢
  have hl : lv_has ls 6 [(0, .ref x0), (1, .int x1), (2, .int x2), (3, .int x3), (4, .int x4)] := hl
  exact bX7_pin_b0 C0 Y hl9 hx9 S _ _ _ 0 0 h hO hS hl (by decide) (by decide)

def rm_X7_struck : Room := { frames := 7, cells := 2, slots := 12, locals := 112 }
def wX7_struck_b0 (x0 : Nat) (x1 : Int32) (x2 : Int32) (Φ : Hp → Int32 → Prop) (Ψ : Hp → String → Prop) (S : Hp) : Prop := isA S x0 7 ∧ wX7_drumAt S x0 x1 (fun S1 r2 => ∃ a4, r2 = some a4 ∧ wX7_checkRange S1 x2 0 7 (fun S5 => isA S5 a4 2 ∧ ∃ a7, S5.FR 130 a4 = some a7 ∧ isA S5 a7 21 ∧ vp_in x2 (S5.N a7) ∧ Φ S5 (S5.AI a7 x2.toNatClampNeg)) Ψ) Ψ
set_option maxHeartbeats 4000000 in
set_option maxRecDepth 100000 in
theorem bX7_struck_b0 {p : Program} {l : Launch} {e : Env} {s : State} {m : MethodId} {args : Array Value} {below : List Frame} {meth : Method} {c : Code} {G : Gw} {x0 : Nat} {x1 : Int32} {x2 : Int32} {Φ : Hp → Int32 → Prop} {Ψ : Hp → String → Prop} (C0 : Mx p s m c cX7_struck 4 args yX7_struck.cls G) (Y : My meth (some .int)) (hl9 : l.stackTraces = false) (hx9 : ∀ x ∈ c.exceptionTable.toList, False)  : ∀ (S : Hp) (H : Heap) (locs : List Loc) (ls : Array Slot) (cells slots : Nat), wX7_struck_b0 x0 x1 x2 Φ Ψ S → Ok G S H → va_S (Ab G.b) s.heap H locs → lv_has ls 4 [(0, .ref x0), (1, .int x1), (2, .int x2)] → cells + (2) ≤ 2 → slots + (12) ≤ 12 → W p l e rm_X7_struck s m args below meth c H locs cells slots (vx_MQ below (gQ G (PI Φ)) (gX G Ψ) args s rm_X7_struck.cells rm_X7_struck.slots (Ab G.b)) (F0 m 0 ls []) := by
  intro S H locs ls cells slots h hO hS hl hcc hss
  unfold wX7_struck_b0 at h
  refine lv_aload_n C0.1 C0.2.1 dX7_struck_0 rfl (lv_at hl 0 rfl) ?_
  refine lv_iload_n C0.1 C0.2.1 dX7_struck_1 rfl (lv_at hl 1 rfl) ?_
  obtain ⟨i3, h⟩ := h
  refine x_V C0 Y.2 hx9 hO hS (mX7_drumAt hl9 h) i3 (by decide) rfl rfl tb_1159 tb_1161 tb_35 tb_74 tb_1162 hd_X7_drumAt rfl ⟨⟨by decide, by decide⟩, by show _ + 1 ≤ 2; omega, by show _ + 6 ≤ 12; omega⟩ hl.1 rfl (Nat.le_of_ble_eq_true rfl) dX7_struck_2 (by show _ + 1 ≤ 2; omega) (by show _ + 6 ≤ 12; omega) (kR (fun r2 S1 H locs h hO hS => ?_))
  change W _ _ _ _ _ _ _ _ _ _ _ _ (_ + 1) (_ + 6) _ _
  obtain ⟨a4, ea4, h⟩ := h
  subst ea4
  change W _ _ _ _ _ _ _ _ _ _ _ _ _ _ _ (F0 _ _ _ (.ref a4 :: _))
  refine lv_astore_n C0.1 C0.2.1 dX7_struck_5 rfl hl (by decide) rfl (fun ls hl => ?_)
  refine lv_iload_n C0.1 C0.2.1 dX7_struck_6 rfl (lv_at hl 3 rfl) ?_
  refine lv_iconst (v := 0) C0.1 C0.2.1 dX7_struck_7 (by decide) ?_
  refine lv_bipush (v := 7) C0.1 C0.2.1 dX7_struck_8 (by decide) ?_
  refine x_S C0 Y.2 hx9 hO hS (mX7_checkRange hl9 h) tb_758 tb_759 tb_74 tb_760 hd_X7_checkRange rfl ⟨⟨by decide, by decide⟩, by show _ + 1 ≤ 2; omega, by show _ + 6 ≤ 12; omega⟩ hl.1 rfl (Nat.le_of_ble_eq_true rfl) dX7_struck_10 (by show _ + 1 ≤ 2; omega) (by show _ + 6 ≤ 12; omega) (kV (fun S5 H locs h hO hS => ?_))
  change W _ _ _ _ _ _ _ _ _ _ _ _ (_ + 1) (_ + 6) _ _
  refine lv_aload_n C0.1 C0.2.1 dX7_struck_13 rfl (lv_at hl 0 rfl) ?_
  obtain ⟨i6, h⟩ := h
  obtain ⟨a7, ea7, h⟩ := h
  refine g2_2 C0 hO i6 ea7 tb_1144 dX7_struck_14 ?_
  refine lv_iload_n C0.1 C0.2.1 dX7_struck_17 rfl (lv_at hl 3 rfl) ?_
  obtain ⟨i8, h⟩ := h
  obtain ⟨e9, h⟩ := h
  refine r_iald C0 hO i8 e9 dX7_struck_18 ?_
  refine vx_ret ?_
  exact e_I C0 Y hO hS h (by show _ ≤ 2; omega) (by show _ ≤ 12; omega) dX7_struck_19
def wX7_struck (S : Hp) (x0 : Nat) (x1 : Int32) (x2 : Int32) (Φ : Hp → Int32 → Prop) (Ψ : Hp → String → Prop) : Prop := wX7_struck_b0 x0 x1 x2 Φ Ψ S
set_option maxRecDepth 100000 in
theorem mX7_struck {l : Launch} {G : Gw} (hl9 : l.stackTraces = false) {S : Hp} {x0 : Nat} {x1 : Int32} {x2 : Int32} {Φ : Hp → Int32 → Prop} {Ψ : Hp → String → Prop} (h : wX7_struck S x0 x1 x2 Φ Ψ) : gT l yX7_struck cX7_struck 4 (some .int) rm_X7_struck [.ref x0, .int x1, .int x2] G S (PI Φ) Ψ := by
  unfold gT
  refine vx_ofW (cc := cX7_struck) (maxL := 4) (ret := (some .int)) (by decide) rfl ?_
  intro p e s m args below meth c s₁ B hml hx9 hv
  obtain ⟨rfl, hw⟩ := hv
  obtain ⟨C0, Y, hO⟩ := mx_of B hml hw
  have hS : va_S (Ab G.b) s.heap s.heap [] := va_S.rf
  have hl := lv_entry ([.ref x0, .int x1, .int x2]) (n := 4) (Nat.le_of_ble_eq_true rfl)
  rw [lg_entry_eq]
  generalize (lg_sl ([.ref x0, .int x1, .int x2]) ++ List.replicate (4 - (lg_sl ([.ref x0, .int x1, .int x2])).length) Slot.unset).toArray = ls at hl ⊢
  have hl : lv_has ls 4 [(0, .ref x0), (1, .int x1), (2, .int x2)] := hl
  exact bX7_struck_b0 C0 Y hl9 hx9 S _ _ _ 0 0 h hO hS hl (by decide) (by decide)

def rm_X7_barsOf : Room := { frames := 7, cells := 5, slots := 28, locals := 112 }
def wX7_barsOf_b0 (x0 : Int32) (x1 : Int32) (x2 : Int32) (x3 : Int32) (Φ : Hp → Option Nat → Prop) (Ψ : Hp → String → Prop) (S : Hp) : Prop := wX7_checkRange S x0 1 999 (fun S1 => wX7_checkRange S1 x1 1 999 (fun S2 => wX7_checkRange S2 x2 1 999 (fun S3 => wX7_checkRange S3 x3 1 999 (fun S4 => ∀ a5 S6, a5 ∉ S4.L → S6 = S4.new a5 0 0 → wX0_init S6 a5 x0 x1 x2 x3 (fun S7 => Φ S7 (some a5))) Ψ) Ψ) Ψ) Ψ
set_option maxHeartbeats 4000000 in
set_option maxRecDepth 100000 in
theorem bX7_barsOf_b0 {p : Program} {l : Launch} {e : Env} {s : State} {m : MethodId} {args : Array Value} {below : List Frame} {meth : Method} {c : Code} {G : Gw} {x0 : Int32} {x1 : Int32} {x2 : Int32} {x3 : Int32} {Φ : Hp → Option Nat → Prop} {Ψ : Hp → String → Prop} (C0 : Mx p s m c cX7_barsOf 4 args yX7_barsOf.cls G) (Y : My meth (some (.object "Linkwright$Bars"))) (hl9 : l.stackTraces = false) (hx9 : ∀ x ∈ c.exceptionTable.toList, False)  : ∀ (S : Hp) (H : Heap) (locs : List Loc) (ls : Array Slot) (cells slots : Nat), wX7_barsOf_b0 x0 x1 x2 x3 Φ Ψ S → Ok G S H → va_S (Ab G.b) s.heap H locs → lv_has ls 4 [(0, .int x0), (1, .int x1), (2, .int x2), (3, .int x3)] → cells + (5) ≤ 5 → slots + (28) ≤ 28 → W p l e rm_X7_barsOf s m args below meth c H locs cells slots (vx_MQ below (gQ G (PR Φ)) (gX G Ψ) args s rm_X7_barsOf.cells rm_X7_barsOf.slots (Ab G.b)) (F0 m 0 ls []) := by
  intro S H locs ls cells slots h hO hS hl hcc hss
  unfold wX7_barsOf_b0 at h
  refine lv_iload_n C0.1 C0.2.1 dX7_barsOf_0 rfl (lv_at hl 0 rfl) ?_
  refine lv_iconst (v := 1) C0.1 C0.2.1 dX7_barsOf_1 (by decide) ?_
  refine lv_sipush (v := 999) C0.1 C0.2.1 dX7_barsOf_2 (by decide) ?_
  refine x_S C0 Y.2 hx9 hO hS (mX7_checkRange hl9 h) tb_758 tb_759 tb_74 tb_760 hd_X7_checkRange rfl ⟨⟨by decide, by decide⟩, by show _ + 1 ≤ 5; omega, by show _ + 6 ≤ 28; omega⟩ hl.1 rfl (Nat.le_of_ble_eq_true rfl) dX7_barsOf_5 (by show _ + 1 ≤ 5; omega) (by show _ + 6 ≤ 28; omega) (kV (fun S1 H locs h hO hS => ?_))
  change W _ _ _ _ _ _ _ _ _ _ _ _ (_ + 1) (_ + 6) _ _
  refine lv_iload_n C0.1 C0.2.1 dX7_barsOf_8 rfl (lv_at hl 1 rfl) ?_
  refine lv_iconst (v := 1) C0.1 C0.2.1 dX7_barsOf_9 (by decide) ?_
  refine lv_sipush (v := 999) C0.1 C0.2.1 dX7_barsOf_10 (by decide) ?_
  refine x_S C0 Y.2 hx9 hO hS (mX7_checkRange hl9 h) tb_758 tb_759 tb_74 tb_760 hd_X7_checkRange rfl ⟨⟨by decide, by decide⟩, by show _ + 1 ≤ 5; omega, by show _ + 6 ≤ 28; omega⟩ hl.1 rfl (Nat.le_of_ble_eq_true rfl) dX7_barsOf_13 (by show _ + 1 ≤ 5; omega) (by show _ + 6 ≤ 28; omega) (kV (fun S2 H locs h hO hS => ?_))
  change W _ _ _ _ _ _ _ _ _ _ _ _ (_ + 1) (_ + 6) _ _
  refine lv_iload_n C0.1 C0.2.1 dX7_barsOf_16 rfl (lv_at hl 2 rfl) ?_
  refine lv_iconst (v := 1) C0.1 C0.2.1 dX7_barsOf_17 (by decide) ?_
  refine lv_sipush (v := 999) C0.1 C0.2.1 dX7_barsOf_18 (by decide) ?_
  refine x_S C0 Y.2 hx9 hO hS (mX7_checkRange hl9 h) tb_758 tb_759 tb_74 tb_760 hd_X7_checkRange rfl ⟨⟨by decide, by decide⟩, by show _ + 1 ≤ 5; omega, by show _ + 6 ≤ 28; omega⟩ hl.1 rfl (Nat.le_of_ble_eq_true rfl) dX7_barsOf_21 (by show _ + 1 ≤ 5; omega) (by show _ + 6 ≤ 28; omega) (kV (fun S3 H locs h hO hS => ?_))
  change W _ _ _ _ _ _ _ _ _ _ _ _ (_ + 1) (_ + 6) _ _
  refine lv_iload_n C0.1 C0.2.1 dX7_barsOf_24 rfl (lv_at hl 3 rfl) ?_
  refine lv_iconst (v := 1) C0.1 C0.2.1 dX7_barsOf_25 (by decide) ?_
  refine lv_sipush (v := 999) C0.1 C0.2.1 dX7_barsOf_26 (by decide) ?_
  refine x_S C0 Y.2 hx9 hO hS (mX7_checkRange hl9 h) tb_758 tb_759 tb_74 tb_760 hd_X7_checkRange rfl ⟨⟨by decide, by decide⟩, by show _ + 1 ≤ 5; omega, by show _ + 6 ≤ 28; omega⟩ hl.1 rfl (Nat.le_of_ble_eq_true rfl) dX7_barsOf_29 (by show _ + 1 ≤ 5; omega) (by show _ + 6 ≤ 28; omega) (kV (fun S4 H locs h hO hS => ?_))
  change W _ _ _ _ _ _ _ _ _ _ _ _ (_ + 1) (_ + 6) _ _
  refine n_0 C0 hO hS tb_1185 tb_1186 tb_101 (by show _ ≤ 5; omega) (by show _ ≤ 28; omega) dX7_barsOf_32 (fun a5 H hna5 hO hS => ?_)
  have h := h a5 _ hna5 rfl
  refine lv_dup C0.1 C0.2.1 dX7_barsOf_35 rfl ?_
  refine lv_iload_n C0.1 C0.2.1 dX7_barsOf_36 rfl (lv_at hl 0 rfl) ?_
  refine lv_iload_n C0.1 C0.2.1 dX7_barsOf_37 rfl (lv_at hl 1 rfl) ?_
  refine lv_iload_n C0.1 C0.2.1 dX7_barsOf_38 rfl (lv_at hl 2 rfl) ?_
  refine lv_iload_n C0.1 C0.2.1 dX7_barsOf_39 rfl (lv_at hl 3 rfl) ?_
  refine c_I C0 hO hS (mX0_init h) tb_1187 tb_1188 tb_101 tb_1189 rfl hd_X0_init rfl ⟨⟨by decide, by decide⟩, by show _ + 0 ≤ 5; omega, by show _ + 0 ≤ 28; omega⟩ hl.1 rfl (Nat.le_of_ble_eq_true rfl) dX7_barsOf_40 (kV (fun S7 H locs h hO hS => ?_))
  change W _ _ _ _ _ _ _ _ _ _ _ _ (_ + 0) (_ + 0) _ _
  refine vx_ret ?_
  exact e_R (v := some a5) C0 Y (Or.inl ⟨_, rfl⟩) hO hS h (by show _ ≤ 5; omega) (by show _ ≤ 28; omega) dX7_barsOf_43
def wX7_barsOf (S : Hp) (x0 : Int32) (x1 : Int32) (x2 : Int32) (x3 : Int32) (Φ : Hp → Option Nat → Prop) (Ψ : Hp → String → Prop) : Prop := wX7_barsOf_b0 x0 x1 x2 x3 Φ Ψ S
set_option maxRecDepth 100000 in
theorem mX7_barsOf {l : Launch} {G : Gw} (hl9 : l.stackTraces = false) {S : Hp} {x0 : Int32} {x1 : Int32} {x2 : Int32} {x3 : Int32} {Φ : Hp → Option Nat → Prop} {Ψ : Hp → String → Prop} (h : wX7_barsOf S x0 x1 x2 x3 Φ Ψ) : gT l yX7_barsOf cX7_barsOf 4 (some (.object "Linkwright$Bars")) rm_X7_barsOf [.int x0, .int x1, .int x2, .int x3] G S (PR Φ) Ψ := by
  unfold gT
  refine vx_ofW (cc := cX7_barsOf) (maxL := 4) (ret := (some (.object "Linkwright$Bars"))) (by decide) rfl ?_
  intro p e s m args below meth c s₁ B hml hx9 hv
  obtain ⟨rfl, hw⟩ := hv
  obtain ⟨C0, Y, hO⟩ := mx_of B hml hw
  have hS : va_S (Ab G.b) s.heap s.heap [] := va_S.rf
  have hl := lv_entry ([.int x0, .int x1, .int x2, .int x3]) (n := 4) (Nat.le_of_ble_eq_true rfl)
  rw [lg_entry_eq]
  generalize (lg_sl ([.int x0, .int x1, .int x2, .int x3]) ++ List.replicate (4 - (lg_sl ([.int x0, .int x1, .int x2, .int x3])).length) Slot.unset).toArray = ls at hl ⊢
  have hl : lv_has ls 4 [(0, .int x0), (1, .int x1), (2, .int x2), (3, .int x3)] := hl
  exact bX7_barsOf_b0 C0 Y hl9 hx9 S _ _ _ 0 0 h hO hS hl (by decide) (by decide)

def rm_X7_bars : Room := { frames := 8, cells := 5, slots := 28, locals := 135 }
def wX7_bars_b0 (x0 : Nat) (x1 : Int32) (x2 : Int32) (x3 : Int32) (x4 : Int32) (Φ : Hp → Int32 → Prop) (Ψ : Hp → String → Prop) (S : Hp) : Prop := wX7_barsOf S x1 x2 x3 x4 (fun S1 r2 => ∃ a3, r2 = some a3 ∧ isA S1 a3 0 ∧ wX0_letter S1 a3 (fun S4 r5 => narrow .char (.int r5) = .int r5 ∧ Φ S4 r5)) Ψ
set_option maxHeartbeats 4000000 in
set_option maxRecDepth 100000 in
theorem bX7_bars_b0 {p : Program} {l : Launch} {e : Env} {s : State} {m : MethodId} {args : Array Value} {below : List Frame} {meth : Method} {c : Code} {G : Gw} {x0 : Nat} {x1 : Int32} {x2 : Int32} {x3 : Int32} {x4 : Int32} {Φ : Hp → Int32 → Prop} {Ψ : Hp → String → Prop} (C0 : Mx p s m c cX7_bars 5 args yX7_bars.cls G) (Y : My meth (some .char)) (hl9 : l.stackTraces = false) (hx9 : ∀ x ∈ c.exceptionTable.toList, False)  : ∀ (S : Hp) (H : Heap) (locs : List Loc) (ls : Array Slot) (cells slots : Nat), wX7_bars_b0 x0 x1 x2 x3 x4 Φ Ψ S → Ok G S H → va_S (Ab G.b) s.heap H locs → lv_has ls 5 [(0, .ref x0), (1, .int x1), (2, .int x2), (3, .int x3), (4, .int x4)] → cells + (5) ≤ 5 → slots + (28) ≤ 28 → W p l e rm_X7_bars s m args below meth c H locs cells slots (vx_MQ below (gQ G (PI Φ)) (gX G Ψ) args s rm_X7_bars.cells rm_X7_bars.slots (Ab G.b)) (F0 m 0 ls []) := by
  intro S H locs ls cells slots h hO hS hl hcc hss
  unfold wX7_bars_b0 at h
  refine lv_iload_n C0.1 C0.2.1 dX7_bars_0 rfl (lv_at hl 1 rfl) ?_
  refine lv_iload_n C0.1 C0.2.1 dX7_bars_1 rfl (lv_at hl 2 rfl) ?_
  refine lv_iload_n C0.1 C0.2.1 dX7_bars_2 rfl (lv_at hl 3 rfl) ?_
  refine lv_iload C0.1 C0.2.1 dX7_bars_3 (lv_at hl 4 rfl) ?_
  refine x_S C0 Y.2 hx9 hO hS (mX7_barsOf hl9 h) tb_1182 tb_1183 tb_74 tb_1184 hd_X7_barsOf rfl ⟨⟨by decide, by decide⟩, by show _ + 5 ≤ 5; omega, by show _ + 28 ≤ 28; omega⟩ hl.1 rfl (Nat.le_of_ble_eq_true rfl) dX7_bars_5 (by show _ + 5 ≤ 5; omega) (by show _ + 28 ≤ 28; omega) (kR (fun r2 S1 H locs h hO hS => ?_))
  change W _ _ _ _ _ _ _ _ _ _ _ _ (_ + 5) (_ + 28) _ _
  obtain ⟨a3, ea3, h⟩ := h
  subst ea3
  change W _ _ _ _ _ _ _ _ _ _ _ _ _ _ _ (F0 _ _ _ (.ref a3 :: _))
  obtain ⟨i6, h⟩ := h
  refine c_V C0 hO hS (mX0_letter h) i6 (by decide) rfl rfl tb_1204 tb_1205 tb_1206 tb_101 tb_1207 hd_X0_letter rfl ⟨⟨by decide, by decide⟩, by show _ + 0 ≤ 5; omega, by show _ + 0 ≤ 28; omega⟩ hl.1 rfl (Nat.le_of_ble_eq_true rfl) dX7_bars_8 (kI (fun r5 S4 H locs h hO hS => ?_))
  change W _ _ _ _ _ _ _ _ _ _ _ _ (_ + 0) (_ + 0) _ _
  refine vx_ret ?_
  exact e_Z C0 Y hO hS h.1 h.2 (by show _ ≤ 5; omega) (by show _ ≤ 28; omega) dX7_bars_11
def wX7_bars (S : Hp) (x0 : Nat) (x1 : Int32) (x2 : Int32) (x3 : Int32) (x4 : Int32) (Φ : Hp → Int32 → Prop) (Ψ : Hp → String → Prop) : Prop := wX7_bars_b0 x0 x1 x2 x3 x4 Φ Ψ S
set_option maxRecDepth 100000 in
theorem mX7_bars {l : Launch} {G : Gw} (hl9 : l.stackTraces = false) {S : Hp} {x0 : Nat} {x1 : Int32} {x2 : Int32} {x3 : Int32} {x4 : Int32} {Φ : Hp → Int32 → Prop} {Ψ : Hp → String → Prop} (h : wX7_bars S x0 x1 x2 x3 x4 Φ Ψ) : gT l yX7_bars cX7_bars 5 (some .char) rm_X7_bars [.ref x0, .int x1, .int x2, .int x3, .int x4] G S (PI Φ) Ψ := by
  unfold gT
  refine vx_ofW (cc := cX7_bars) (maxL := 5) (ret := (some .char)) (by decide) rfl ?_
  intro p e s m args below meth c s₁ B hml hx9 hv
  obtain ⟨rfl, hw⟩ := hv
  obtain ⟨C0, Y, hO⟩ := mx_of B hml hw
  have hS : va_S (Ab G.b) s.heap s.heap [] := va_S.rf
  have hl := lv_entry ([.ref x0, .int x1, .int x2, .int x3, .int x4]) (n := 5) (Nat.le_of_ble_eq_true rfl)
  rw [lg_entry_eq]
  generalize (lg_sl ([.ref x0, .int x1, .int x2, .int x3, .int x4]) ++ List.replicate (5 - (lg_sl ([.ref x0, .int x1, .int x2, .int x3, .int x4])).length) Slot.unset).toArray = ls at hl ⊢
  have hl : lv_has ls 5 [(0, .ref x0), (1, .int x1), (2, .int x2), (3, .int x3), (4, .int x4)] := hl
  exact bX7_bars_b0 C0 Y hl9 hx9 S _ _ _ 0 0 h hO hS hl (by decide) (by decide)

def rm_X7_thatExists : Room := { frames := 6, cells := 1, slots := 6, locals := 90 }
def wX7_thatExists_n_b0 (Φ : Hp → Option Nat → Prop) (Ψ : Hp → String → Prop) (S : Hp) : Prop := Ψ S "java/util/NoSuchElementException"
set_option maxHeartbeats 4000000 in
set_option maxRecDepth 100000 in
theorem bX7_thatExists_n_b0 {p : Program} {l : Launch} {e : Env} {s : State} {m : MethodId} {args : Array Value} {below : List Frame} {meth : Method} {c : Code} {G : Gw} {Φ : Hp → Option Nat → Prop} {Ψ : Hp → String → Prop} (C0 : Mx p s m c cX7_thatExists 1 args yX7_thatExists.cls G) (Y : My meth (some (.object "Linkwright$Fraction"))) (hl9 : l.stackTraces = false) (hx9 : ∀ x ∈ c.exceptionTable.toList, False)  : ∀ (S : Hp) (H : Heap) (locs : List Loc) (ls : Array Slot) (cells slots : Nat), wX7_thatExists_n_b0 Φ Ψ S → Ok G S H → va_S (Ab G.b) s.heap H locs → lv_has ls 1 [(0, .null)] → cells + (1) ≤ 1 → slots + (6) ≤ 6 → W p l e rm_X7_thatExists s m args below meth c H locs cells slots (vx_MQ below (gQ G (PR Φ)) (gX G Ψ) args s rm_X7_thatExists.cells rm_X7_thatExists.slots (Ab G.b)) (F0 m 0 ls []) := by
  intro S H locs ls cells slots h hO hS hl hcc hss
  unfold wX7_thatExists_n_b0 at h
  refine lv_aload_nN C0.1 C0.2.1 dX7_thatExists_0 rfl (lv_at hl 0 rfl) ?_
  refine lv_ifnonnullN C0.1 C0.2.1 dX7_thatExists_1 ?_
  exact t_NW (text := "there is no such triangle") C0 hl9 Y.2 hx9 hO hS tb_905 tb_98 (by decide +kernel) hl.1 h dX7_thatExists_4 dX7_thatExists_7 dX7_thatExists_8 dX7_thatExists_11 dX7_thatExists_14 (Nat.le_of_ble_eq_true rfl) (Nat.le_of_ble_eq_true rfl) (by show _ ≤ 1; omega) (by show _ ≤ 6; omega) (by show _ ≤ 1; omega) (by show _ ≤ 6; omega)
def wX7_thatExists_n (S : Hp) (Φ : Hp → Option Nat → Prop) (Ψ : Hp → String → Prop) : Prop := wX7_thatExists_n_b0 Φ Ψ S
set_option maxRecDepth 100000 in
theorem mX7_thatExists_n {l : Launch} {G : Gw} (hl9 : l.stackTraces = false) {S : Hp} {Φ : Hp → Option Nat → Prop} {Ψ : Hp → String → Prop} (h : wX7_thatExists_n S Φ Ψ) : gT l yX7_thatExists cX7_thatExists 1 (some (.object "Linkwright$Fraction")) rm_X7_thatExists [.null] G S (PR Φ) Ψ := by
  unfold gT
  refine vx_ofW (cc := cX7_thatExists) (maxL := 1) (ret := (some (.object "Linkwright$Fraction"))) (by decide) rfl ?_
  intro p e s m args below meth c s₁ B hml hx9 hv
  obtain ⟨rfl, hw⟩ := hv
  obtain ⟨C0, Y, hO⟩ := mx_of B hml hw
  have hS : va_S (Ab G.b) s.heap s.heap [] := va_S.rf
  have hl := lv_entry ([.null]) (n := 1) (Nat.le_of_ble_eq_true rfl)
  rw [lg_entry_eq]
  generalize (lg_sl ([.null]) ++ List.replicate (1 - (lg_sl ([.null])).length) Slot.unset).toArray = ls at hl ⊢
  have hl : lv_has ls 1 [(0, .null)] := hl
  exact bX7_thatExists_n_b0 C0 Y hl9 hx9 S _ _ _ 0 0 h hO hS hl (by decide) (by decide)

def wX7_thatExists_s_b0 (x0 : Nat) (Φ : Hp → Option Nat → Prop) (Ψ : Hp → String → Prop) (S : Hp) : Prop := Φ S (some x0)
set_option maxHeartbeats 4000000 in
set_option maxRecDepth 100000 in
theorem bX7_thatExists_s_b0 {p : Program} {l : Launch} {e : Env} {s : State} {m : MethodId} {args : Array Value} {below : List Frame} {meth : Method} {c : Code} {G : Gw} {x0 : Nat} {Φ : Hp → Option Nat → Prop} {Ψ : Hp → String → Prop} (C0 : Mx p s m c cX7_thatExists 1 args yX7_thatExists.cls G) (Y : My meth (some (.object "Linkwright$Fraction"))) (hl9 : l.stackTraces = false) (hx9 : ∀ x ∈ c.exceptionTable.toList, False)  : ∀ (S : Hp) (H : Heap) (locs : List Loc) (ls : Array Slot) (cells slots : Nat), wX7_thatExists_s_b0 x0 Φ Ψ S → Ok G S H → va_S (Ab G.b) s.heap H locs → lv_has ls 1 [(0, .ref x0)] → cells + (1) ≤ 1 → slots + (6) ≤ 6 → W p l e rm_X7_thatExists s m args below meth c H locs cells slots (vx_MQ below (gQ G (PR Φ)) (gX G Ψ) args s rm_X7_thatExists.cells rm_X7_thatExists.slots (Ab G.b)) (F0 m 0 ls []) := by
  intro S H locs ls cells slots h hO hS hl hcc hss
  unfold wX7_thatExists_s_b0 at h
  refine lv_aload_n C0.1 C0.2.1 dX7_thatExists_0 rfl (lv_at hl 0 rfl) ?_
  refine lv_ifnonnull (tgt := 15) C0.1 C0.2.1 dX7_thatExists_1 (by decide) ?_
  refine lv_aload_n C0.1 C0.2.1 dX7_thatExists_15 rfl (lv_at hl 0 rfl) ?_
  refine vx_ret ?_
  exact e_R (v := some x0) C0 Y (Or.inl ⟨_, rfl⟩) hO hS h (by show _ ≤ 1; omega) (by show _ ≤ 6; omega) dX7_thatExists_16
def wX7_thatExists_s (S : Hp) (x0 : Nat) (Φ : Hp → Option Nat → Prop) (Ψ : Hp → String → Prop) : Prop := wX7_thatExists_s_b0 x0 Φ Ψ S
set_option maxRecDepth 100000 in
theorem mX7_thatExists_s {l : Launch} {G : Gw} (hl9 : l.stackTraces = false) {S : Hp} {x0 : Nat} {Φ : Hp → Option Nat → Prop} {Ψ : Hp → String → Prop} (h : wX7_thatExists_s S x0 Φ Ψ) : gT l yX7_thatExists cX7_thatExists 1 (some (.object "Linkwright$Fraction")) rm_X7_thatExists [.ref x0] G S (PR Φ) Ψ := by
  unfold gT
  refine vx_ofW (cc := cX7_thatExists) (maxL := 1) (ret := (some (.object "Linkwright$Fraction"))) (by decide) rfl ?_
  intro p e s m args below meth c s₁ B hml hx9 hv
  obtain ⟨rfl, hw⟩ := hv
  obtain ⟨C0, Y, hO⟩ := mx_of B hml hw
  have hS : va_S (Ab G.b) s.heap s.heap [] := va_S.rf
  have hl := lv_entry ([.ref x0]) (n := 1) (Nat.le_of_ble_eq_true rfl)
  rw [lg_entry_eq]
  generalize (lg_sl ([.ref x0]) ++ List.replicate (1 - (lg_sl ([.ref x0])).length) Slot.unset).toArray = ls at hl ⊢
  have hl : lv_has ls 1 [(0, .ref x0)] := hl
  exact bX7_thatExists_s_b0 C0 Y hl9 hx9 S _ _ _ 0 0 h hO hS hl (by decide) (by decide)
def wX7_thatExists (S : Hp) (x0 : Option Nat) (Φ : Hp → Option Nat → Prop) (Ψ : Hp → String → Prop) : Prop := match x0 with
  | none => wX7_thatExists_n S Φ Ψ
  | some a9 => wX7_thatExists_s S a9 Φ Ψ
theorem mX7_thatExists {l : Launch} {G : Gw} (hl9 : l.stackTraces = false) {S : Hp} {x0 : Option Nat} {Φ : Hp → Option Nat → Prop} {Ψ : Hp → String → Prop} (h : wX7_thatExists S x0 Φ Ψ) : gT l yX7_thatExists cX7_thatExists 1 (some (.object "Linkwright$Fraction")) rm_X7_thatExists [va_rf x0] G S (PR Φ) Ψ := by
  cases x0 with
  | none => exact mX7_thatExists_n hl9 h
  | some a9 => exact mX7_thatExists_s hl9 h

def rm_X7_limitOver : Room := { frames := 8, cells := 7, slots := 36, locals := 135 }
def wX7_limitOver_b0 (x0 : Nat) (x1 : Int32) (x2 : Int32) (x3 : Int32) (x4 : Int32) (x5 : Int32) (Φ : Hp → Int64 → Prop) (Ψ : Hp → String → Prop) (S : Hp) : Prop := wX7_barsOf S x1 x2 x3 x4 (fun S1 r2 => ∃ a3, r2 = some a3 ∧ isA S1 a3 0 ∧ wX0_limit S1 a3 x5 (fun S4 r5 => wX7_thatExists S4 r5 (fun S7 r8 => ∃ a9, r8 = some a9 ∧ isA S7 a9 3 ∧ Φ S7 (S7.FJ 192 a9)) Ψ)) Ψ
set_option maxHeartbeats 4000000 in
set_option maxRecDepth 100000 in
theorem bX7_limitOver_b0 {p : Program} {l : Launch} {e : Env} {s : State} {m : MethodId} {args : Array Value} {below : List Frame} {meth : Method} {c : Code} {G : Gw} {x0 : Nat} {x1 : Int32} {x2 : Int32} {x3 : Int32} {x4 : Int32} {x5 : Int32} {Φ : Hp → Int64 → Prop} {Ψ : Hp → String → Prop} (C0 : Mx p s m c cX7_limitOver 6 args yX7_limitOver.cls G) (Y : My meth (some .long)) (hl9 : l.stackTraces = false) (hx9 : ∀ x ∈ c.exceptionTable.toList, False)  : ∀ (S : Hp) (H : Heap) (locs : List Loc) (ls : Array Slot) (cells slots : Nat), wX7_limitOver_b0 x0 x1 x2 x3 x4 x5 Φ Ψ S → Ok G S H → va_S (Ab G.b) s.heap H locs → lv_has ls 6 [(0, .ref x0), (1, .int x1), (2, .int x2), (3, .int x3), (4, .int x4), (5, .int x5)] → cells + (7) ≤ 7 → slots + (36) ≤ 36 → W p l e rm_X7_limitOver s m args below meth c H locs cells slots (vx_MQ below (gQ G (PJ Φ)) (gX G Ψ) args s rm_X7_limitOver.cells rm_X7_limitOver.slots (Ab G.b)) (F0 m 0 ls []) := by
  intro S H locs ls cells slots h hO hS hl hcc hss
  unfold wX7_limitOver_b0 at h
  refine lv_iload_n C0.1 C0.2.1 dX7_limitOver_0 rfl (lv_at hl 1 rfl) ?_
  refine lv_iload_n C0.1 C0.2.1 dX7_limitOver_1 rfl (lv_at hl 2 rfl) ?_
  refine lv_iload_n C0.1 C0.2.1 dX7_limitOver_2 rfl (lv_at hl 3 rfl) ?_
  refine lv_iload C0.1 C0.2.1 dX7_limitOver_3 (lv_at hl 4 rfl) ?_
  refine x_S C0 Y.2 hx9 hO hS (mX7_barsOf hl9 h) tb_1182 tb_1183 tb_74 tb_1184 hd_X7_barsOf rfl ⟨⟨by decide, by decide⟩, by show _ + 5 ≤ 7; omega, by show _ + 28 ≤ 36; omega⟩ hl.1 rfl (Nat.le_of_ble_eq_true rfl) dX7_limitOver_5 (by show _ + 5 ≤ 7; omega) (by show _ + 28 ≤ 36; omega) (kR (fun r2 S1 H locs h hO hS => ?_))
  change W _ _ _ _ _ _ _ _ _ _ _ _ (_ + 5) (_ + 28) _ _
  obtain ⟨a3, ea3, h⟩ := h
  subst ea3
  change W _ _ _ _ _ _ _ _ _ _ _ _ _ _ _ (F0 _ _ _ (.ref a3 :: _))
  refine lv_iload C0.1 C0.2.1 dX7_limitOver_8 (lv_at hl 5 rfl) ?_
  obtain ⟨i6, h⟩ := h
  refine c_V C0 hO hS (mX0_limit h) i6 (by decide) rfl rfl tb_1221 tb_1222 tb_1223 tb_101 tb_1224 hd_X0_limit rfl ⟨⟨by decide, by decide⟩, by show _ + 1 ≤ 7; omega, by show _ + 2 ≤ 36; omega⟩ hl.1 rfl (Nat.le_of_ble_eq_true rfl) dX7_limitOver_10 (kR (fun r5 S4 H locs h hO hS => ?_))
  change W _ _ _ _ _ _ _ _ _ _ _ _ (_ + 1) (_ + 2) _ _
  refine x_S C0 Y.2 hx9 hO hS (mX7_thatExists hl9 h) tb_1233 tb_1234 tb_74 tb_1235 hd_X7_thatExists rfl ⟨⟨by decide, by decide⟩, by show _ + 1 ≤ 7; omega, by show _ + 6 ≤ 36; omega⟩ hl.1 rfl (Nat.le_of_ble_eq_true rfl) dX7_limitOver_13 (by show _ + 1 ≤ 7; omega) (by show _ + 6 ≤ 36; omega) (kR (fun r8 S7 H locs h hO hS => ?_))
  change W _ _ _ _ _ _ _ _ _ _ _ _ (_ + 1) (_ + 6) _ _
  obtain ⟨a9, ea9, h⟩ := h
  subst ea9
  change W _ _ _ _ _ _ _ _ _ _ _ _ _ _ _ (F0 _ _ _ (.ref a9 :: _))
  obtain ⟨i10, h⟩ := h
  refine g3_0 C0 hO i10 tb_437 dX7_limitOver_16 ?_
  refine vx_ret ?_
  exact e_J C0 Y hO hS h (by show _ ≤ 7; omega) (by show _ ≤ 36; omega) dX7_limitOver_19
def wX7_limitOver (S : Hp) (x0 : Nat) (x1 : Int32) (x2 : Int32) (x3 : Int32) (x4 : Int32) (x5 : Int32) (Φ : Hp → Int64 → Prop) (Ψ : Hp → String → Prop) : Prop := wX7_limitOver_b0 x0 x1 x2 x3 x4 x5 Φ Ψ S
set_option maxRecDepth 100000 in
theorem mX7_limitOver {l : Launch} {G : Gw} (hl9 : l.stackTraces = false) {S : Hp} {x0 : Nat} {x1 : Int32} {x2 : Int32} {x3 : Int32} {x4 : Int32} {x5 : Int32} {Φ : Hp → Int64 → Prop} {Ψ : Hp → String → Prop} (h : wX7_limitOver S x0 x1 x2 x3 x4 x5 Φ Ψ) : gT l yX7_limitOver cX7_limitOver 6 (some .long) rm_X7_limitOver [.ref x0, .int x1, .int x2, .int x3, .int x4, .int x5] G S (PJ Φ) Ψ := by
  unfold gT
  refine vx_ofW (cc := cX7_limitOver) (maxL := 6) (ret := (some .long)) (by decide) rfl ?_
  intro p e s m args below meth c s₁ B hml hx9 hv
  obtain ⟨rfl, hw⟩ := hv
  obtain ⟨C0, Y, hO⟩ := mx_of B hml hw
  have hS : va_S (Ab G.b) s.heap s.heap [] := va_S.rf
  have hl := lv_entry ([.ref x0, .int x1, .int x2, .int x3, .int x4, .int x5]) (n := 6) (Nat.le_of_ble_eq_true rfl)
  rw [lg_entry_eq]
  generalize (lg_sl ([.ref x0, .int x1, .int x2, .int x3, .int x4, .int x5]) ++ List.replicate (6 - (lg_sl ([.ref x0, .int x1, .int x2, .int x3, .int x4, .int x5])).length) Slot.unset).toArray = ls at hl ⊢
  have hl : lv_has ls 6 [(0, .ref x0), (1, .int x1), (2, .int x2), (3, .int x3), (4, .int x4), (5, .int x5)] := hl
  exact bX7_limitOver_b0 C0 Y hl9 hx9 S _ _ _ 0 0 h hO hS hl (by decide) (by decide)

def rm_X7_limitUnder : Room := { frames := 8, cells := 7, slots := 36, locals := 135 }
def wX7_limitUnder_b0 (x0 : Nat) (x1 : Int32) (x2 : Int32) (x3 : Int32) (x4 : Int32) (x5 : Int32) (Φ : Hp → Int64 → Prop) (Ψ : Hp → String → Prop) (S : Hp) : Prop := wX7_barsOf S x1 x2 x3 x4 (fun S1 r2 => ∃ a3, r2 = some a3 ∧ isA S1 a3 0 ∧ wX0_limit S1 a3 x5 (fun S4 r5 => wX7_thatExists S4 r5 (fun S7 r8 => ∃ a9, r8 = some a9 ∧ isA S7 a9 3 ∧ Φ S7 (S7.FJ 193 a9)) Ψ)) Ψ
set_option maxHeartbeats 4000000 in
set_option maxRecDepth 100000 in
theorem bX7_limitUnder_b0 {p : Program} {l : Launch} {e : Env} {s : State} {m : MethodId} {args : Array Value} {below : List Frame} {meth : Method} {c : Code} {G : Gw} {x0 : Nat} {x1 : Int32} {x2 : Int32} {x3 : Int32} {x4 : Int32} {x5 : Int32} {Φ : Hp → Int64 → Prop} {Ψ : Hp → String → Prop} (C0 : Mx p s m c cX7_limitUnder 6 args yX7_limitUnder.cls G) (Y : My meth (some .long)) (hl9 : l.stackTraces = false) (hx9 : ∀ x ∈ c.exceptionTable.toList, False)  : ∀ (S : Hp) (H : Heap) (locs : List Loc) (ls : Array Slot) (cells slots : Nat), wX7_limitUnder_b0 x0 x1 x2 x3 x4 x5 Φ Ψ S → Ok G S H → va_S (Ab G.b) s.heap H locs → lv_has ls 6 [(0, .ref x0), (1, .int x1), (2, .int x2), (3, .int x3), (4, .int x4), (5, .int x5)] → cells + (7) ≤ 7 → slots + (36) ≤ 36 → W p l e rm_X7_limitUnder s m args below meth c H locs cells slots (vx_MQ below (gQ G (PJ Φ)) (gX G Ψ) args s rm_X7_limitUnder.cells rm_X7_limitUnder.slots (Ab G.b)) (F0 m 0 ls []) := by
  intro S H locs ls cells slots h hO hS hl hcc hss
  unfold wX7_limitUnder_b0 at h
  refine lv_iload_n C0.1 C0.2.1 dX7_limitUnder_0 rfl (lv_at hl 1 rfl) ?_
  refine lv_iload_n C0.1 C0.2.1 dX7_limitUnder_1 rfl (lv_at hl 2 rfl) ?_
  refine lv_iload_n C0.1 C0.2.1 dX7_limitUnder_2 rfl (lv_at hl 3 rfl) ?_
  refine lv_iload C0.1 C0.2.1 dX7_limitUnder_3 (lv_at hl 4 rfl) ?_
  refine x_S C0 Y.2 hx9 hO hS (mX7_barsOf hl9 h) tb_1182 tb_1183 tb_74 tb_1184 hd_X7_barsOf rfl ⟨⟨by decide, by decide⟩, by show _ + 5 ≤ 7; omega, by show _ + 28 ≤ 36; omega⟩ hl.1 rfl (Nat.le_of_ble_eq_true rfl) dX7_limitUnder_5 (by show _ + 5 ≤ 7; omega) (by show _ + 28 ≤ 36; omega) (kR (fun r2 S1 H locs h hO hS => ?_))
  change W _ _ _ _ _ _ _ _ _ _ _ _ (_ + 5) (_ + 28) _ _
  obtain ⟨a3, ea3, h⟩ := h
  subst ea3
  change W _ _ _ _ _ _ _ _ _ _ _ _ _ _ _ (F0 _ _ _ (.ref a3 :: _))
  refine lv_iload C0.1 C0.2.1 dX7_limitUnder_8 (lv_at hl 5 rfl) ?_
  obtain ⟨i6, h⟩ := h
  refine c_V C0 hO hS (mX0_limit h) i6 (by decide) rfl rfl tb_1221 tb_1222 tb_1223 tb_101 tb_1224 hd_X0_limit rfl ⟨⟨by decide, by decide⟩, by show _ + 1 ≤ 7; omega, by show _ + 2 ≤ 36; omega⟩ hl.1 rfl (Nat.le_of_ble_eq_true rfl) dX7_limitUnder_10 (kR (fun r5 S4 H locs h hO hS => ?_))
  change W _ _ _ _ _ _ _ _ _ _ _ _ (_ + 1) (_ + 2) _ _
  refine x_S C0 Y.2 hx9 hO hS (mX7_thatExists hl9 h) tb_1233 tb_1234 tb_74 tb_1235 hd_X7_thatExists rfl ⟨⟨by decide, by decide⟩, by show _ + 1 ≤ 7; omega, by show _ + 6 ≤ 36; omega⟩ hl.1 rfl (Nat.le_of_ble_eq_true rfl) dX7_limitUnder_13 (by show _ + 1 ≤ 7; omega) (by show _ + 6 ≤ 36; omega) (kR (fun r8 S7 H locs h hO hS => ?_))
  change W _ _ _ _ _ _ _ _ _ _ _ _ (_ + 1) (_ + 6) _ _
  obtain ⟨a9, ea9, h⟩ := h
  subst ea9
  change W _ _ _ _ _ _ _ _ _ _ _ _ _ _ _ (F0 _ _ _ (.ref a9 :: _))
  obtain ⟨i10, h⟩ := h
  refine g3_1 C0 hO i10 tb_439 dX7_limitUnder_16 ?_
  refine vx_ret ?_
  exact e_J C0 Y hO hS h (by show _ ≤ 7; omega) (by show _ ≤ 36; omega) dX7_limitUnder_19
def wX7_limitUnder (S : Hp) (x0 : Nat) (x1 : Int32) (x2 : Int32) (x3 : Int32) (x4 : Int32) (x5 : Int32) (Φ : Hp → Int64 → Prop) (Ψ : Hp → String → Prop) : Prop := wX7_limitUnder_b0 x0 x1 x2 x3 x4 x5 Φ Ψ S
set_option maxRecDepth 100000 in
theorem mX7_limitUnder {l : Launch} {G : Gw} (hl9 : l.stackTraces = false) {S : Hp} {x0 : Nat} {x1 : Int32} {x2 : Int32} {x3 : Int32} {x4 : Int32} {x5 : Int32} {Φ : Hp → Int64 → Prop} {Ψ : Hp → String → Prop} (h : wX7_limitUnder S x0 x1 x2 x3 x4 x5 Φ Ψ) : gT l yX7_limitUnder cX7_limitUnder 6 (some .long) rm_X7_limitUnder [.ref x0, .int x1, .int x2, .int x3, .int x4, .int x5] G S (PJ Φ) Ψ := by
  unfold gT
  refine vx_ofW (cc := cX7_limitUnder) (maxL := 6) (ret := (some .long)) (by decide) rfl ?_
  intro p e s m args below meth c s₁ B hml hx9 hv
  obtain ⟨rfl, hw⟩ := hv
  obtain ⟨C0, Y, hO⟩ := mx_of B hml hw
  have hS : va_S (Ab G.b) s.heap s.heap [] := va_S.rf
  have hl := lv_entry ([.ref x0, .int x1, .int x2, .int x3, .int x4, .int x5]) (n := 6) (Nat.le_of_ble_eq_true rfl)
  rw [lg_entry_eq]
  generalize (lg_sl ([.ref x0, .int x1, .int x2, .int x3, .int x4, .int x5]) ++ List.replicate (6 - (lg_sl ([.ref x0, .int x1, .int x2, .int x3, .int x4, .int x5])).length) Slot.unset).toArray = ls at hl ⊢
  have hl : lv_has ls 6 [(0, .ref x0), (1, .int x1), (2, .int x2), (3, .int x3), (4, .int x4), (5, .int x5)] := hl
  exact bX7_limitUnder_b0 C0 Y hl9 hx9 S _ _ _ 0 0 h hO hS hl (by decide) (by decide)

def rm_X7_angleOver : Room := { frames := 8, cells := 7, slots := 36, locals := 135 }
def wX7_angleOver_b0 (x0 : Nat) (x1 : Int32) (x2 : Int32) (x3 : Int32) (x4 : Int32) (x5 : Int32) (Φ : Hp → Int64 → Prop) (Ψ : Hp → String → Prop) (S : Hp) : Prop := wX7_barsOf S x1 x2 x3 x4 (fun S1 r2 => ∃ a3, r2 = some a3 ∧ isA S1 a3 0 ∧ wX0_angle S1 a3 x5 (fun S4 r5 => wX7_thatExists S4 r5 (fun S7 r8 => ∃ a9, r8 = some a9 ∧ isA S7 a9 3 ∧ Φ S7 (S7.FJ 192 a9)) Ψ)) Ψ
set_option maxHeartbeats 4000000 in
set_option maxRecDepth 100000 in
theorem bX7_angleOver_b0 {p : Program} {l : Launch} {e : Env} {s : State} {m : MethodId} {args : Array Value} {below : List Frame} {meth : Method} {c : Code} {G : Gw} {x0 : Nat} {x1 : Int32} {x2 : Int32} {x3 : Int32} {x4 : Int32} {x5 : Int32} {Φ : Hp → Int64 → Prop} {Ψ : Hp → String → Prop} (C0 : Mx p s m c cX7_angleOver 6 args yX7_angleOver.cls G) (Y : My meth (some .long)) (hl9 : l.stackTraces = false) (hx9 : ∀ x ∈ c.exceptionTable.toList, False)  : ∀ (S : Hp) (H : Heap) (locs : List Loc) (ls : Array Slot) (cells slots : Nat), wX7_angleOver_b0 x0 x1 x2 x3 x4 x5 Φ Ψ S → Ok G S H → va_S (Ab G.b) s.heap H locs → lv_has ls 6 [(0, .ref x0), (1, .int x1), (2, .int x2), (3, .int x3), (4, .int x4), (5, .int x5)] → cells + (7) ≤ 7 → slots + (36) ≤ 36 → W p l e rm_X7_angleOver s m args below meth c H locs cells slots (vx_MQ below (gQ G (PJ Φ)) (gX G Ψ) args s rm_X7_angleOver.cells rm_X7_angleOver.slots (Ab G.b)) (F0 m 0 ls []) := by
  intro S H locs ls cells slots h hO hS hl hcc hss
  unfold wX7_angleOver_b0 at h
  refine lv_iload_n C0.1 C0.2.1 dX7_angleOver_0 rfl (lv_at hl 1 rfl) ?_
  refine lv_iload_n C0.1 C0.2.1 dX7_angleOver_1 rfl (lv_at hl 2 rfl) ?_
  refine lv_iload_n C0.1 C0.2.1 dX7_angleOver_2 rfl (lv_at hl 3 rfl) ?_
  refine lv_iload C0.1 C0.2.1 dX7_angleOver_3 (lv_at hl 4 rfl) ?_
  refine x_S C0 Y.2 hx9 hO hS (mX7_barsOf hl9 h) tb_1182 tb_1183 tb_74 tb_1184 hd_X7_barsOf rfl ⟨⟨by decide, by decide⟩, by show _ + 5 ≤ 7; omega, by show _ + 28 ≤ 36; omega⟩ hl.1 rfl (Nat.le_of_ble_eq_true rfl) dX7_angleOver_5 (by show _ + 5 ≤ 7; omega) (by show _ + 28 ≤ 36; omega) (kR (fun r2 S1 H locs h hO hS => ?_))
  change W _ _ _ _ _ _ _ _ _ _ _ _ (_ + 5) (_ + 28) _ _
  obtain ⟨a3, ea3, h⟩ := h
  subst ea3
  change W _ _ _ _ _ _ _ _ _ _ _ _ _ _ _ (F0 _ _ _ (.ref a3 :: _))
  refine lv_iload C0.1 C0.2.1 dX7_angleOver_8 (lv_at hl 5 rfl) ?_
  obtain ⟨i6, h⟩ := h
  refine c_V C0 hO hS (mX0_angle h) i6 (by decide) rfl rfl tb_1251 tb_1252 tb_1253 tb_101 tb_1254 hd_X0_angle rfl ⟨⟨by decide, by decide⟩, by show _ + 1 ≤ 7; omega, by show _ + 2 ≤ 36; omega⟩ hl.1 rfl (Nat.le_of_ble_eq_true rfl) dX7_angleOver_10 (kR (fun r5 S4 H locs h hO hS => ?_))
  change W _ _ _ _ _ _ _ _ _ _ _ _ (_ + 1) (_ + 2) _ _
  refine x_S C0 Y.2 hx9 hO hS (mX7_thatExists hl9 h) tb_1233 tb_1234 tb_74 tb_1235 hd_X7_thatExists rfl ⟨⟨by decide, by decide⟩, by show _ + 1 ≤ 7; omega, by show _ + 6 ≤ 36; omega⟩ hl.1 rfl (Nat.le_of_ble_eq_true rfl) dX7_angleOver_13 (by show _ + 1 ≤ 7; omega) (by show _ + 6 ≤ 36; omega) (kR (fun r8 S7 H locs h hO hS => ?_))
  change W _ _ _ _ _ _ _ _ _ _ _ _ (_ + 1) (_ + 6) _ _
  obtain ⟨a9, ea9, h⟩ := h
  subst ea9
  change W _ _ _ _ _ _ _ _ _ _ _ _ _ _ _ (F0 _ _ _ (.ref a9 :: _))
  obtain ⟨i10, h⟩ := h
  refine g3_0 C0 hO i10 tb_437 dX7_angleOver_16 ?_
  refine vx_ret ?_
  exact e_J C0 Y hO hS h (by show _ ≤ 7; omega) (by show _ ≤ 36; omega) dX7_angleOver_19
def wX7_angleOver (S : Hp) (x0 : Nat) (x1 : Int32) (x2 : Int32) (x3 : Int32) (x4 : Int32) (x5 : Int32) (Φ : Hp → Int64 → Prop) (Ψ : Hp → String → Prop) : Prop := wX7_angleOver_b0 x0 x1 x2 x3 x4 x5 Φ Ψ S
set_option maxRecDepth 100000 in
theorem mX7_angleOver {l : Launch} {G : Gw} (hl9 : l.stackTraces = false) {S : Hp} {x0 : Nat} {x1 : Int32} {x2 : Int32} {x3 : Int32} {x4 : Int32} {x5 : Int32} {Φ : Hp → Int64 → Prop} {Ψ : Hp → String → Prop} (h : wX7_angleOver S x0 x1 x2 x3 x4 x5 Φ Ψ) : gT l yX7_angleOver cX7_angleOver 6 (some .long) rm_X7_angleOver [.ref x0, .int x1, .int x2, .int x3, .int x4, .int x5] G S (PJ Φ) Ψ := by
  unfold gT
  refine vx_ofW (cc := cX7_angleOver) (maxL := 6) (ret := (some .long)) (by decide) rfl ?_
  intro p e s m args below meth c s₁ B hml hx9 hv
  obtain ⟨rfl, hw⟩ := hv
  obtain ⟨C0, Y, hO⟩ := mx_of B hml hw
  have hS : va_S (Ab G.b) s.heap s.heap [] := va_S.rf
  have hl := lv_entry ([.ref x0, .int x1, .int x2, .int x3, .int x4, .int x5]) (n := 6) (Nat.le_of_ble_eq_true rfl)
  rw [lg_entry_eq]
  generalize (lg_sl ([.ref x0, .int x1, .int x2, .int x3, .int x4, .int x5]) ++ List.replicate (6 - (lg_sl ([.ref x0, .int x1, .int x2, .int x3, .int x4, .int x5])).length) Slot.unset).toArray = ls at hl ⊢
  have hl : lv_has ls 6 [(0, .ref x0), (1, .int x1), (2, .int x2), (3, .int x3), (4, .int x4), (5, .int x5)] := hl
  exact bX7_angleOver_b0 C0 Y hl9 hx9 S _ _ _ 0 0 h hO hS hl (by decide) (by decide)

def rm_X7_angleUnder : Room := { frames := 8, cells := 7, slots := 36, locals := 135 }
def wX7_angleUnder_b0 (x0 : Nat) (x1 : Int32) (x2 : Int32) (x3 : Int32) (x4 : Int32) (x5 : Int32) (Φ : Hp → Int64 → Prop) (Ψ : Hp → String → Prop) (S : Hp) : Prop := wX7_barsOf S x1 x2 x3 x4 (fun S1 r2 => ∃ a3, r2 = some a3 ∧ isA S1 a3 0 ∧ wX0_angle S1 a3 x5 (fun S4 r5 => wX7_thatExists S4 r5 (fun S7 r8 => ∃ a9, r8 = some a9 ∧ isA S7 a9 3 ∧ Φ S7 (S7.FJ 193 a9)) Ψ)) Ψ
set_option maxHeartbeats 4000000 in
set_option maxRecDepth 100000 in
theorem bX7_angleUnder_b0 {p : Program} {l : Launch} {e : Env} {s : State} {m : MethodId} {args : Array Value} {below : List Frame} {meth : Method} {c : Code} {G : Gw} {x0 : Nat} {x1 : Int32} {x2 : Int32} {x3 : Int32} {x4 : Int32} {x5 : Int32} {Φ : Hp → Int64 → Prop} {Ψ : Hp → String → Prop} (C0 : Mx p s m c cX7_angleUnder 6 args yX7_angleUnder.cls G) (Y : My meth (some .long)) (hl9 : l.stackTraces = false) (hx9 : ∀ x ∈ c.exceptionTable.toList, False)  : ∀ (S : Hp) (H : Heap) (locs : List Loc) (ls : Array Slot) (cells slots : Nat), wX7_angleUnder_b0 x0 x1 x2 x3 x4 x5 Φ Ψ S → Ok G S H → va_S (Ab G.b) s.heap H locs → lv_has ls 6 [(0, .ref x0), (1, .int x1), (2, .int x2), (3, .int x3), (4, .int x4), (5, .int x5)] → cells + (7) ≤ 7 → slots + (36) ≤ 36 → W p l e rm_X7_angleUnder s m args below meth c H locs cells slots (vx_MQ below (gQ G (PJ Φ)) (gX G Ψ) args s rm_X7_angleUnder.cells rm_X7_angleUnder.slots (Ab G.b)) (F0 m 0 ls []) := by
  intro S H locs ls cells slots h hO hS hl hcc hss
  unfold wX7_angleUnder_b0 at h
  refine lv_iload_n C0.1 C0.2.1 dX7_angleUnder_0 rfl (lv_at hl 1 rfl) ?_
  refine lv_iload_n C0.1 C0.2.1 dX7_angleUnder_1 rfl (lv_at hl 2 rfl) ?_
  refine lv_iload_n C0.1 C0.2.1 dX7_angleUnder_2 rfl (lv_at hl 3 rfl) ?_
  refine lv_iload C0.1 C0.2.1 dX7_angleUnder_3 (lv_at hl 4 rfl) ?_
  refine x_S C0 Y.2 hx9 hO hS (mX7_barsOf hl9 h) tb_1182 tb_1183 tb_74 tb_1184 hd_X7_barsOf rfl ⟨⟨by decide, by decide⟩, by show _ + 5 ≤ 7; omega, by show _ + 28 ≤ 36; omega⟩ hl.1 rfl (Nat.le_of_ble_eq_true rfl) dX7_angleUnder_5 (by show _ + 5 ≤ 7; omega) (by show _ + 28 ≤ 36; omega) (kR (fun r2 S1 H locs h hO hS => ?_))
  change W _ _ _ _ _ _ _ _ _ _ _ _ (_ + 5) (_ + 28) _ _
  obtain ⟨a3, ea3, h⟩ := h
  subst ea3
  change W _ _ _ _ _ _ _ _ _ _ _ _ _ _ _ (F0 _ _ _ (.ref a3 :: _))
  refine lv_iload C0.1 C0.2.1 dX7_angleUnder_8 (lv_at hl 5 rfl) ?_
  obtain ⟨i6, h⟩ := h
  refine c_V C0 hO hS (mX0_angle h) i6 (by decide) rfl rfl tb_1251 tb_1252 tb_1253 tb_101 tb_1254 hd_X0_angle rfl ⟨⟨by decide, by decide⟩, by show _ + 1 ≤ 7; omega, by show _ + 2 ≤ 36; omega⟩ hl.1 rfl (Nat.le_of_ble_eq_true rfl) dX7_angleUnder_10 (kR (fun r5 S4 H locs h hO hS => ?_))
  change W _ _ _ _ _ _ _ _ _ _ _ _ (_ + 1) (_ + 2) _ _
  refine x_S C0 Y.2 hx9 hO hS (mX7_thatExists hl9 h) tb_1233 tb_1234 tb_74 tb_1235 hd_X7_thatExists rfl ⟨⟨by decide, by decide⟩, by show _ + 1 ≤ 7; omega, by show _ + 6 ≤ 36; omega⟩ hl.1 rfl (Nat.le_of_ble_eq_true rfl) dX7_angleUnder_13 (by show _ + 1 ≤ 7; omega) (by show _ + 6 ≤ 36; omega) (kR (fun r8 S7 H locs h hO hS => ?_))
  change W _ _ _ _ _ _ _ _ _ _ _ _ (_ + 1) (_ + 6) _ _
  obtain ⟨a9, ea9, h⟩ := h
  subst ea9
  change W _ _ _ _ _ _ _ _ _ _ _ _ _ _ _ (F0 _ _ _ (.ref a9 :: _))
  obtain ⟨i10, h⟩ := h
  refine g3_1 C0 hO i10 tb_439 dX7_angleUnder_16 ?_
  refine vx_ret ?_
  exact e_J C0 Y hO hS h (by show _ ≤ 7; omega) (by show _ ≤ 36; omega) dX7_angleUnder_19
def wX7_angleUnder (S : Hp) (x0 : Nat) (x1 : Int32) (x2 : Int32) (x3 : Int32) (x4 : Int32) (x5 : Int32) (Φ : Hp → Int64 → Prop) (Ψ : Hp → String → Prop) : Prop := wX7_angleUnder_b0 x0 x1 x2 x3 x4 x5 Φ Ψ S
set_option maxRecDepth 100000 in
theorem mX7_angleUnder {l : Launch} {G : Gw} (hl9 : l.stackTraces = false) {S : Hp} {x0 : Nat} {x1 : Int32} {x2 : Int32} {x3 : Int32} {x4 : Int32} {x5 : Int32} {Φ : Hp → Int64 → Prop} {Ψ : Hp → String → Prop} (h : wX7_angleUnder S x0 x1 x2 x3 x4 x5 Φ Ψ) : gT l yX7_angleUnder cX7_angleUnder 6 (some .long) rm_X7_angleUnder [.ref x0, .int x1, .int x2, .int x3, .int x4, .int x5] G S (PJ Φ) Ψ := by
  unfold gT
  refine vx_ofW (cc := cX7_angleUnder) (maxL := 6) (ret := (some .long)) (by decide) rfl ?_
  intro p e s m args below meth c s₁ B hml hx9 hv
  obtain ⟨rfl, hw⟩ := hv
  obtain ⟨C0, Y, hO⟩ := mx_of B hml hw
  have hS : va_S (Ab G.b) s.heap s.heap [] := va_S.rf
  have hl := lv_entry ([.ref x0, .int x1, .int x2, .int x3, .int x4, .int x5]) (n := 6) (Nat.le_of_ble_eq_true rfl)
  rw [lg_entry_eq]
  generalize (lg_sl ([.ref x0, .int x1, .int x2, .int x3, .int x4, .int x5]) ++ List.replicate (6 - (lg_sl ([.ref x0, .int x1, .int x2, .int x3, .int x4, .int x5])).length) Slot.unset).toArray = ls at hl ⊢
  have hl : lv_has ls 6 [(0, .ref x0), (1, .int x1), (2, .int x2), (3, .int x3), (4, .int x4), (5, .int x5)] := hl
  exact bX7_angleUnder_b0 C0 Y hl9 hx9 S _ _ _ 0 0 h hO hS hl (by decide) (by decide)

def rm_X7_isBetterPair : Room := { frames := 1, cells := 0, slots := 0, locals := 15 }
def wX7_isBetterPair_b0 (x0 : Int32) (x1 : Int32) (x2 : Int32) (x3 : Int32) (x4 : Int32) (x5 : Int32) (Φ : Hp → Int32 → Prop) (S : Hp) : Prop := (((lg_cmp ((if 0 < ((x0.toInt64 * x5.toInt64) - (x4.toInt64 * x1.toInt64)) then ((x0.toInt64 * x5.toInt64) - (x4.toInt64 * x1.toInt64)) else -((x0.toInt64 * x5.toInt64) - (x4.toInt64 * x1.toInt64))) * x3.toInt64) ((if 0 < ((x2.toInt64 * x5.toInt64) - (x4.toInt64 * x3.toInt64)) then ((x2.toInt64 * x5.toInt64) - (x4.toInt64 * x3.toInt64)) else -((x2.toInt64 * x5.toInt64) - (x4.toInt64 * x3.toInt64))) * x1.toInt64)) = 0 → (((x0 + x1) = (x2 + x3) → ((x2 ≤ x0 → Φ S 0) ∧ (¬ (x2 ≤ x0) → Φ S 1))) ∧ (¬ ((x0 + x1) = (x2 + x3)) → (((x2 + x3) ≤ (x0 + x1) → Φ S 0) ∧ (¬ ((x2 + x3) ≤ (x0 + x1)) → Φ S 1))))) ∧ (¬ ((lg_cmp ((if 0 < ((x0.toInt64 * x5.toInt64) - (x4.toInt64 * x1.toInt64)) then ((x0.toInt64 * x5.toInt64) - (x4.toInt64 * x1.toInt64)) else -((x0.toInt64 * x5.toInt64) - (x4.toInt64 * x1.toInt64))) * x3.toInt64) ((if 0 < ((x2.toInt64 * x5.toInt64) - (x4.toInt64 * x3.toInt64)) then ((x2.toInt64 * x5.toInt64) - (x4.toInt64 * x3.toInt64)) else -((x2.toInt64 * x5.toInt64) - (x4.toInt64 * x3.toInt64))) * x1.toInt64)) = 0) → ((0 ≤ (lg_cmp ((if 0 < ((x0.toInt64 * x5.toInt64) - (x4.toInt64 * x1.toInt64)) then ((x0.toInt64 * x5.toInt64) - (x4.toInt64 * x1.toInt64)) else -((x0.toInt64 * x5.toInt64) - (x4.toInt64 * x1.toInt64))) * x3.toInt64) ((if 0 < ((x2.toInt64 * x5.toInt64) - (x4.toInt64 * x3.toInt64)) then ((x2.toInt64 * x5.toInt64) - (x4.toInt64 * x3.toInt64)) else -((x2.toInt64 * x5.toInt64) - (x4.toInt64 * x3.toInt64))) * x1.toInt64)) → Φ S 0) ∧ (¬ (0 ≤ (lg_cmp ((if 0 < ((x0.toInt64 * x5.toInt64) - (x4.toInt64 * x1.toInt64)) then ((x0.toInt64 * x5.toInt64) - (x4.toInt64 * x1.toInt64)) else -((x0.toInt64 * x5.toInt64) - (x4.toInt64 * x1.toInt64))) * x3.toInt64) ((if 0 < ((x2.toInt64 * x5.toInt64) - (x4.toInt64 * x3.toInt64)) then ((x2.toInt64 * x5.toInt64) - (x4.toInt64 * x3.toInt64)) else -((x2.toInt64 * x5.toInt64) - (x4.toInt64 * x3.toInt64))) * x1.toInt64))) → Φ S 1))))
set_option maxHeartbeats 4000000 in
set_option maxRecDepth 100000 in
theorem bX7_isBetterPair_b0 {p : Program} {l : Launch} {e : Env} {s : State} {m : MethodId} {args : Array Value} {below : List Frame} {meth : Method} {c : Code} {G : Gw} {x0 : Int32} {x1 : Int32} {x2 : Int32} {x3 : Int32} {x4 : Int32} {x5 : Int32} {Φ : Hp → Int32 → Prop} (C0 : Mx p s m c cX7_isBetterPair 10 args yX7_isBetterPair.cls G) (Y : My meth (some .boolean))  : ∀ (S : Hp) (H : Heap) (locs : List Loc) (ls : Array Slot), wX7_isBetterPair_b0 x0 x1 x2 x3 x4 x5 Φ S → Ok G S H → va_S (Ab G.b) s.heap H locs → lv_has ls 10 [(0, .int x0), (1, .int x1), (2, .int x2), (3, .int x3), (4, .int x4), (5, .int x5)] → W p l e rm_X7_isBetterPair s m args below meth c H locs 0 0 (MQ below (gQ G (PI Φ)) args s rm_X7_isBetterPair.cells rm_X7_isBetterPair.slots (Ab G.b)) (F0 m 0 ls []) := by
  intro S H locs ls h hO hS hl
  unfold wX7_isBetterPair_b0 at h
  refine lv_iload_n C0.1 C0.2.1 dX7_isBetterPair_0 rfl (lv_at hl 0 rfl) ?_
  refine lv_i2l C0.1 C0.2.1 dX7_isBetterPair_1 rfl ?_
  refine lv_iload C0.1 C0.2.1 dX7_isBetterPair_2 (lv_at hl 5 rfl) ?_
  refine lv_i2l C0.1 C0.2.1 dX7_isBetterPair_4 rfl ?_
  refine lv_lmul C0.1 C0.2.1 dX7_isBetterPair_5 ?_
  refine lv_iload C0.1 C0.2.1 dX7_isBetterPair_6 (lv_at hl 4 rfl) ?_
  refine lv_i2l C0.1 C0.2.1 dX7_isBetterPair_8 rfl ?_
  refine lv_iload_n C0.1 C0.2.1 dX7_isBetterPair_9 rfl (lv_at hl 1 rfl) ?_
  refine lv_i2l C0.1 C0.2.1 dX7_isBetterPair_10 rfl ?_
  refine lv_lmul C0.1 C0.2.1 dX7_isBetterPair_11 ?_
  refine lv_lsub C0.1 C0.2.1 dX7_isBetterPair_12 ?_
  refine va_mabs_long C0.1 C0.2.1 (C0.2.2.1.trans hl.1.symm) C0.2.2.2.1 (C0.2.2.2.2.1 _ tb_816) (C0.2.2.2.2.1 _ tb_817) (C0.2.2.2.2.1 _ tb_94) (C0.2.2.2.2.1 _ tb_818) (Nat.le_of_ble_eq_true rfl) (Nat.le_of_ble_eq_true rfl) (by decide) (by decide) dX7_isBetterPair_13 ?_
  refine lv_iload_n C0.1 C0.2.1 dX7_isBetterPair_16 rfl (lv_at hl 3 rfl) ?_
  refine lv_i2l C0.1 C0.2.1 dX7_isBetterPair_17 rfl ?_
  refine lv_lmul C0.1 C0.2.1 dX7_isBetterPair_18 ?_
  refine lv_lstore C0.1 C0.2.1 dX7_isBetterPair_19 hl (by decide) rfl (fun ls hl => ?_)
  refine lv_iload_n C0.1 C0.2.1 dX7_isBetterPair_21 rfl (lv_at hl 3 rfl) ?_
  refine lv_i2l C0.1 C0.2.1 dX7_isBetterPair_22 rfl ?_
  refine lv_iload C0.1 C0.2.1 dX7_isBetterPair_23 (lv_at hl 6 rfl) ?_
  refine lv_i2l C0.1 C0.2.1 dX7_isBetterPair_25 rfl ?_
  refine lv_lmul C0.1 C0.2.1 dX7_isBetterPair_26 ?_
  refine lv_iload C0.1 C0.2.1 dX7_isBetterPair_27 (lv_at hl 5 rfl) ?_
  refine lv_i2l C0.1 C0.2.1 dX7_isBetterPair_29 rfl ?_
  refine lv_iload_n C0.1 C0.2.1 dX7_isBetterPair_30 rfl (lv_at hl 4 rfl) ?_
  refine lv_i2l C0.1 C0.2.1 dX7_isBetterPair_31 rfl ?_
  refine lv_lmul C0.1 C0.2.1 dX7_isBetterPair_32 ?_
  refine lv_lsub C0.1 C0.2.1 dX7_isBetterPair_33 ?_
  refine va_mabs_long C0.1 C0.2.1 (C0.2.2.1.trans hl.1.symm) C0.2.2.2.1 (C0.2.2.2.2.1 _ tb_816) (C0.2.2.2.2.1 _ tb_817) (C0.2.2.2.2.1 _ tb_94) (C0.2.2.2.2.1 _ tb_818) (Nat.le_of_ble_eq_true rfl) (Nat.le_of_ble_eq_true rfl) (by decide) (by decide) dX7_isBetterPair_34 ?_
  refine lv_iload_n C0.1 C0.2.1 dX7_isBetterPair_37 rfl (lv_at hl 2 rfl) ?_
  refine lv_i2l C0.1 C0.2.1 dX7_isBetterPair_38 rfl ?_
  refine lv_lmul C0.1 C0.2.1 dX7_isBetterPair_39 ?_
  refine lv_lstore C0.1 C0.2.1 dX7_isBetterPair_40 hl (by decide) rfl (fun ls hl => ?_)
  refine lv_lload C0.1 C0.2.1 dX7_isBetterPair_42 (lv_at hl 1 rfl) ?_
  refine lv_lload C0.1 C0.2.1 dX7_isBetterPair_44 (lv_at hl 0 rfl) ?_
  refine W.lcmp C0.1 C0.2.1 dX7_isBetterPair_46 ?_
  refine lv_if_eq (tgt := 64) C0.1 C0.2.1 dX7_isBetterPair_47 (by decide) (fun c1 => ?_) (fun c1 => ?_)
  · have h := h.1 c1
    refine lv_iload_n C0.1 C0.2.1 dX7_isBetterPair_64 rfl (lv_at hl 2 rfl) ?_
    refine lv_iload_n C0.1 C0.2.1 dX7_isBetterPair_65 rfl (lv_at hl 3 rfl) ?_
    refine lv_iadd C0.1 C0.2.1 dX7_isBetterPair_66 ?_
    refine lv_iload_n C0.1 C0.2.1 dX7_isBetterPair_67 rfl (lv_at hl 4 rfl) ?_
    refine lv_iload_n C0.1 C0.2.1 dX7_isBetterPair_68 rfl (lv_at hl 5 rfl) ?_
    refine lv_iadd C0.1 C0.2.1 dX7_isBetterPair_69 ?_
    refine lv_icmp_eq (tgt := 88) C0.1 C0.2.1 dX7_isBetterPair_70 (by decide) (fun c2 => ?_) (fun c2 => ?_)
    · have h := h.1 c2
      refine lv_iload_n C0.1 C0.2.1 dX7_isBetterPair_88 rfl (lv_at hl 2 rfl) ?_
      refine lv_iload_n C0.1 C0.2.1 dX7_isBetterPair_89 rfl (lv_at hl 4 rfl) ?_
      refine lv_icmp_ge (tgt := 97) C0.1 C0.2.1 dX7_isBetterPair_90 (by decide) (fun c3 => ?_) (fun c3 => ?_)
      · have h := h.1 c3
        refine lv_iconst (v := 0) C0.1 C0.2.1 dX7_isBetterPair_97 (by decide) ?_
        exact e_Z C0 Y hO hS rfl h (Nat.le_refl _) (Nat.le_refl _) dX7_isBetterPair_98
      · have h := h.2 c3
        refine lv_iconst (v := 1) C0.1 C0.2.1 dX7_isBetterPair_93 (by decide) ?_
        refine lv_goto (tgt := 98) C0.1 C0.2.1 dX7_isBetterPair_94 (by decide) ?_
        exact e_Z C0 Y hO hS rfl h (Nat.le_refl _) (Nat.le_refl _) dX7_isBetterPair_98
    · have h := h.2 c2
      refine lv_iload_n C0.1 C0.2.1 dX7_isBetterPair_73 rfl (lv_at hl 2 rfl) ?_
      refine lv_iload_n C0.1 C0.2.1 dX7_isBetterPair_74 rfl (lv_at hl 3 rfl) ?_
      refine lv_iadd C0.1 C0.2.1 dX7_isBetterPair_75 ?_
      refine lv_iload_n C0.1 C0.2.1 dX7_isBetterPair_76 rfl (lv_at hl 4 rfl) ?_
      refine lv_iload_n C0.1 C0.2.1 dX7_isBetterPair_77 rfl (lv_at hl 5 rfl) ?_
      refine lv_iadd C0.1 C0.2.1 dX7_isBetterPair_78 ?_
      refine lv_icmp_ge (tgt := 86) C0.1 C0.2.1 dX7_isBetterPair_79 (by decide) (fun c4 => ?_) (fun c4 => ?_)
      · have h := h.1 c4
        refine lv_iconst (v := 0) C0.1 C0.2.1 dX7_isBetterPair_86 (by decide) ?_
        exact e_Z C0 Y hO hS rfl h (Nat.le_refl _) (Nat.le_refl _) dX7_isBetterPair_87
      · have h := h.2 c4
        refine lv_iconst (v := 1) C0.1 C0.2.1 dX7_isBetterPair_82 (by decide) ?_
        refine lv_goto (tgt := 87) C0.1 C0.2.1 dX7_isBetterPair_83 (by decide) ?_
        exact e_Z C0 Y hO hS rfl h (Nat.le_refl _) (Nat.le_refl _) dX7_isBetterPair_87
  · have h := h.2 c1
    refine lv_lload C0.1 C0.2.1 dX7_isBetterPair_50 (lv_at hl 1 rfl) ?_
    refine lv_lload C0.1 C0.2.1 dX7_isBetterPair_52 (lv_at hl 0 rfl) ?_
    refine W.lcmp C0.1 C0.2.1 dX7_isBetterPair_54 ?_
    refine lv_if_ge (tgt := 62) C0.1 C0.2.1 dX7_isBetterPair_55 (by decide) (fun c5 => ?_) (fun c5 => ?_)
    · have h := h.1 c5
      refine lv_iconst (v := 0) C0.1 C0.2.1 dX7_isBetterPair_62 (by decide) ?_
      exact e_Z C0 Y hO hS rfl h (Nat.le_refl _) (Nat.le_refl _) dX7_isBetterPair_63
    · have h := h.2 c5
      refine lv_iconst (v := 1) C0.1 C0.2.1 dX7_isBetterPair_58 (by decide) ?_
      refine lv_goto (tgt := 63) C0.1 C0.2.1 dX7_isBetterPair_59 (by decide) ?_
      exact e_Z C0 Y hO hS rfl h (Nat.le_refl _) (Nat.le_refl _) dX7_isBetterPair_63
def wX7_isBetterPair (S : Hp) (x0 : Int32) (x1 : Int32) (x2 : Int32) (x3 : Int32) (x4 : Int32) (x5 : Int32) (Φ : Hp → Int32 → Prop) : Prop := wX7_isBetterPair_b0 x0 x1 x2 x3 x4 x5 Φ S
set_option maxRecDepth 100000 in
theorem mX7_isBetterPair {l : Launch} {G : Gw} {S : Hp} {x0 : Int32} {x1 : Int32} {x2 : Int32} {x3 : Int32} {x4 : Int32} {x5 : Int32} {Φ : Hp → Int32 → Prop} (h : wX7_isBetterPair S x0 x1 x2 x3 x4 x5 Φ) : gM l yX7_isBetterPair cX7_isBetterPair 10 (some .boolean) rm_X7_isBetterPair [.int x0, .int x1, .int x2, .int x3, .int x4, .int x5] G S (PI Φ) := by
  unfold gM
  refine Met.ofW (cc := cX7_isBetterPair) (maxL := 10) (ret := (some .boolean)) (by decide) rfl ?_
  intro p e s m args below meth c s₁ B hml hv
  obtain ⟨rfl, hw⟩ := hv
  obtain ⟨C0, Y, hO⟩ := mx_of B hml hw
  have hS : va_S (Ab G.b) s.heap s.heap [] := va_S.rf
  have hl := lv_entry ([.int x0, .int x1, .int x2, .int x3, .int x4, .int x5]) (n := 10) (Nat.le_of_ble_eq_true rfl)
  rw [lg_entry_eq]
  generalize (lg_sl ([.int x0, .int x1, .int x2, .int x3, .int x4, .int x5]) ++ List.replicate (10 - (lg_sl ([.int x0, .int x1, .int x2, .int x3, .int x4, .int x5])).length) Slot.unset).toArray = ls at hl ⊢
  have hl : lv_has ls 10 [(0, .int x0), (1, .int x1), (2, .int x2), (3, .int x3), (4, .int x4), (5, .int x5)] := hl
  exact bX7_isBetterPair_b0 C0 Y S _ _ _ h hO hS hl

def rm_X7_teeth : Room := { frames := 7, cells := 2, slots := 12, locals := 112 }
def wX7_teeth_b70 (x0 : Nat) (x1 : Int32) (x2 : Int32) (x3 : Int32) (Φ : Hp → Int32 → Prop) (Ψ : Hp → String → Prop) (k28 : Hp → Int32 → Int32 → Int32 → Prop) (k39 : Hp → Int32 → Int32 → Int32 → Int32 → Prop) (S : Hp) (v4 : Int32) (v5 : Int32) (v6 : Int32) (v7 : Int32) : Prop := k39 S v4 v5 v6 (v7 + 1)
set_option maxHeartbeats 4000000 in
set_option maxRecDepth 100000 in
theorem bX7_teeth_b70 {p : Program} {l : Launch} {e : Env} {s : State} {m : MethodId} {args : Array Value} {below : List Frame} {meth : Method} {c : Code} {G : Gw} {x0 : Nat} {x1 : Int32} {x2 : Int32} {x3 : Int32} {Φ : Hp → Int32 → Prop} {Ψ : Hp → String → Prop} (C0 : Mx p s m c cX7_teeth 8 args yX7_teeth.cls G) (Y : My meth (some .int)) (hl9 : l.stackTraces = false) (hx9 : ∀ x ∈ c.exceptionTable.toList, False) {k28 : Hp → Int32 → Int32 → Int32 → Prop} (hk28 : ∀ (S : Hp) (v4 : Int32) (v5 : Int32) (v6 : Int32) (H : Heap) (locs : List Loc) (ls : Array Slot) (cells slots : Nat), k28 S v4 v5 v6 → Ok G S H → va_S (Ab G.b) s.heap H locs → lv_has ls 8 [(0, .ref x0), (1, .int x1), (2, .int x2), (3, .int x3), (4, .int v4), (5, .int v5), (6, .int v6)] → cells + (0) ≤ 2 → slots + (0) ≤ 12 → W p l e rm_X7_teeth s m args below meth c H locs cells slots (vx_MQ below (gQ G (PI Φ)) (gX G Ψ) args s rm_X7_teeth.cells rm_X7_teeth.slots (Ab G.b)) (F0 m 28 ls [])) {k39 : Hp → Int32 → Int32 → Int32 → Int32 → Prop} (hk39 : ∀ (S : Hp) (v4 : Int32) (v5 : Int32) (v6 : Int32) (v7 : Int32) (H : Heap) (locs : List Loc) (ls : Array Slot) (cells slots : Nat), k39 S v4 v5 v6 v7 → Ok G S H → va_S (Ab G.b) s.heap H locs → lv_has ls 8 [(0, .ref x0), (1, .int x1), (2, .int x2), (3, .int x3), (4, .int v4), (5, .int v5), (6, .int v6), (7, .int v7)] → cells + (0) ≤ 2 → slots + (0) ≤ 12 → W p l e rm_X7_teeth s m args below meth c H locs cells slots (vx_MQ below (gQ G (PI Φ)) (gX G Ψ) args s rm_X7_teeth.cells rm_X7_teeth.slots (Ab G.b)) (F0 m 39 ls [])) : ∀ (S : Hp) (v4 : Int32) (v5 : Int32) (v6 : Int32) (v7 : Int32) (H : Heap) (locs : List Loc) (ls : Array Slot) (cells slots : Nat), wX7_teeth_b70 x0 x1 x2 x3 Φ Ψ k28 k39 S v4 v5 v6 v7 → Ok G S H → va_S (Ab G.b) s.heap H locs → lv_has ls 8 [(0, .ref x0), (1, .int x1), (2, .int x2), (3, .int x3), (4, .int v4), (5, .int v5), (6, .int v6), (7, .int v7)] → cells + (0) ≤ 2 → slots + (0) ≤ 12 → W p l e rm_X7_teeth s m args below meth c H locs cells slots (vx_MQ below (gQ G (PI Φ)) (gX G Ψ) args s rm_X7_teeth.cells rm_X7_teeth.slots (Ab G.b)) (F0 m 70 ls []) := by
  intro S v4 v5 v6 v7 H locs ls cells slots h hO hS hl hcc hss
  unfold wX7_teeth_b70 at h
  refine lv_iinc (v := _ + 1) C0.1 C0.2.1 dX7_teeth_70 hl (k := 7) rfl rfl (by decide) rfl (fun ls hl => ?_)
  refine lv_goto (tgt := 39) C0.1 C0.2.1 dX7_teeth_73 (by decide) ?_
  exact hk39 _ _ _ _ _ _ _ _ _ _ h hO hS (lv_sub hl [1, 2, 3, 4, 5, 6, 7, 0] rfl) (by omega) (by omega)
def wX7_teeth_b39 (x0 : Nat) (x1 : Int32) (x2 : Int32) (x3 : Int32) (Φ : Hp → Int32 → Prop) (Ψ : Hp → String → Prop) (k28 : Hp → Int32 → Int32 → Int32 → Prop) (k39 : Hp → Int32 → Int32 → Int32 → Int32 → Prop) (S : Hp) (v4 : Int32) (v5 : Int32) (v6 : Int32) (v7 : Int32) : Prop := ((30 < v7 → k28 S v4 v5 (v6 + 1)) ∧ (¬ (30 < v7) → wX7_isBetterPair S v6 v7 v4 v5 x1 x2 (fun S2 r3 => ((r3 = 0 → wX7_teeth_b70 x0 x1 x2 x3 Φ Ψ k28 k39 S2 v4 v5 v6 v7) ∧ (¬ (r3 = 0) → wX7_teeth_b70 x0 x1 x2 x3 Φ Ψ k28 k39 S2 v6 v7 v6 v7)))))
set_option maxHeartbeats 4000000 in
set_option maxRecDepth 100000 in
theorem bX7_teeth_b39 {p : Program} {l : Launch} {e : Env} {s : State} {m : MethodId} {args : Array Value} {below : List Frame} {meth : Method} {c : Code} {G : Gw} {x0 : Nat} {x1 : Int32} {x2 : Int32} {x3 : Int32} {Φ : Hp → Int32 → Prop} {Ψ : Hp → String → Prop} (C0 : Mx p s m c cX7_teeth 8 args yX7_teeth.cls G) (Y : My meth (some .int)) (hl9 : l.stackTraces = false) (hx9 : ∀ x ∈ c.exceptionTable.toList, False) {k28 : Hp → Int32 → Int32 → Int32 → Prop} (hk28 : ∀ (S : Hp) (v4 : Int32) (v5 : Int32) (v6 : Int32) (H : Heap) (locs : List Loc) (ls : Array Slot) (cells slots : Nat), k28 S v4 v5 v6 → Ok G S H → va_S (Ab G.b) s.heap H locs → lv_has ls 8 [(0, .ref x0), (1, .int x1), (2, .int x2), (3, .int x3), (4, .int v4), (5, .int v5), (6, .int v6)] → cells + (0) ≤ 2 → slots + (0) ≤ 12 → W p l e rm_X7_teeth s m args below meth c H locs cells slots (vx_MQ below (gQ G (PI Φ)) (gX G Ψ) args s rm_X7_teeth.cells rm_X7_teeth.slots (Ab G.b)) (F0 m 28 ls [])) {k39 : Hp → Int32 → Int32 → Int32 → Int32 → Prop} (hk39 : ∀ (S : Hp) (v4 : Int32) (v5 : Int32) (v6 : Int32) (v7 : Int32) (H : Heap) (locs : List Loc) (ls : Array Slot) (cells slots : Nat), k39 S v4 v5 v6 v7 → Ok G S H → va_S (Ab G.b) s.heap H locs → lv_has ls 8 [(0, .ref x0), (1, .int x1), (2, .int x2), (3, .int x3), (4, .int v4), (5, .int v5), (6, .int v6), (7, .int v7)] → cells + (0) ≤ 2 → slots + (0) ≤ 12 → W p l e rm_X7_teeth s m args below meth c H locs cells slots (vx_MQ below (gQ G (PI Φ)) (gX G Ψ) args s rm_X7_teeth.cells rm_X7_teeth.slots (Ab G.b)) (F0 m 39 ls [])) : ∀ (S : Hp) (v4 : Int32) (v5 : Int32) (v6 : Int32) (v7 : Int32) (H : Heap) (locs : List Loc) (ls : Array Slot) (cells slots : Nat), wX7_teeth_b39 x0 x1 x2 x3 Φ Ψ k28 k39 S v4 v5 v6 v7 → Ok G S H → va_S (Ab G.b) s.heap H locs → lv_has ls 8 [(0, .ref x0), (1, .int x1), (2, .int x2), (3, .int x3), (4, .int v4), (5, .int v5), (6, .int v6), (7, .int v7)] → cells + (0) ≤ 2 → slots + (0) ≤ 12 → W p l e rm_X7_teeth s m args below meth c H locs cells slots (vx_MQ below (gQ G (PI Φ)) (gX G Ψ) args s rm_X7_teeth.cells rm_X7_teeth.slots (Ab G.b)) (F0 m 39 ls []) := by
  intro S v4 v5 v6 v7 H locs ls cells slots h hO hS hl hcc hss
  unfold wX7_teeth_b39 at h
  refine lv_iload C0.1 C0.2.1 dX7_teeth_39 (lv_at hl 7 rfl) ?_
  refine lv_bipush (v := 30) C0.1 C0.2.1 dX7_teeth_41 (by decide) ?_
  refine lv_icmp_gt (tgt := 76) C0.1 C0.2.1 dX7_teeth_43 (by decide) (fun c1 => ?_) (fun c1 => ?_)
  · have h := h.1 c1
    refine lv_iinc (v := _ + 1) C0.1 C0.2.1 dX7_teeth_76 hl (k := 6) rfl rfl (by decide) rfl (fun ls hl => ?_)
    refine lv_goto (tgt := 28) C0.1 C0.2.1 dX7_teeth_79 (by decide) ?_
    exact hk28 _ _ _ _ _ _ _ _ _ h hO hS (lv_sub hl [1, 2, 3, 4, 5, 6, 0] rfl) (by omega) (by omega)
  · have h := h.2 c1
    refine lv_iload C0.1 C0.2.1 dX7_teeth_46 (lv_at hl 6 rfl) ?_
    refine lv_iload C0.1 C0.2.1 dX7_teeth_48 (lv_at hl 7 rfl) ?_
    refine lv_iload C0.1 C0.2.1 dX7_teeth_50 (lv_at hl 4 rfl) ?_
    refine lv_iload C0.1 C0.2.1 dX7_teeth_52 (lv_at hl 5 rfl) ?_
    refine lv_iload_n C0.1 C0.2.1 dX7_teeth_54 rfl (lv_at hl 1 rfl) ?_
    refine lv_iload_n C0.1 C0.2.1 dX7_teeth_55 rfl (lv_at hl 2 rfl) ?_
    refine c_S C0 hO hS (mX7_isBetterPair h) tb_1269 tb_1270 tb_74 tb_1271 hd_X7_isBetterPair rfl ⟨⟨by decide, by decide⟩, by show _ + 0 ≤ 2; omega, by show _ + 0 ≤ 12; omega⟩ hl.1 rfl (Nat.le_of_ble_eq_true rfl) dX7_teeth_56 (kI (fun r3 S2 H locs h hO hS => ?_))
    change W _ _ _ _ _ _ _ _ _ _ _ _ (_ + 0) (_ + 0) _ _
    refine lv_if_eq (tgt := 70) C0.1 C0.2.1 dX7_teeth_59 (by decide) (fun c4 => ?_) (fun c4 => ?_)
    · have h := h.1 c4
      exact bX7_teeth_b70 C0 Y hl9 hx9 hk28 hk39 _ _ _ _ _ _ _ _ _ _ h hO hS (lv_sub hl [0, 1, 2, 3, 4, 5, 6, 7] rfl) (by omega) (by omega)
    · have h := h.2 c4
      refine lv_iload C0.1 C0.2.1 dX7_teeth_62 (lv_at hl 6 rfl) ?_
      refine lv_istore C0.1 C0.2.1 dX7_teeth_64 hl (by decide) rfl (fun ls hl => ?_)
      refine lv_iload C0.1 C0.2.1 dX7_teeth_66 (lv_at hl 7 rfl) ?_
      refine lv_istore C0.1 C0.2.1 dX7_teeth_68 hl (by decide) rfl (fun ls hl => ?_)
      exact bX7_teeth_b70 C0 Y hl9 hx9 hk28 hk39 _ _ _ _ _ _ _ _ _ _ h hO hS (lv_sub hl [2, 3, 4, 5, 1, 0, 6, 7] rfl) (by omega) (by omega)
set_option maxHeartbeats 4000000 in
set_option maxRecDepth 100000 in
theorem lX7_teeth_b39 {p : Program} {l : Launch} {e : Env} {s : State} {m : MethodId} {args : Array Value} {below : List Frame} {meth : Method} {c : Code} {G : Gw} {x0 : Nat} {x1 : Int32} {x2 : Int32} {x3 : Int32} {Φ : Hp → Int32 → Prop} {Ψ : Hp → String → Prop} (C0 : Mx p s m c cX7_teeth 8 args yX7_teeth.cls G) (Y : My meth (some .int)) (hl9 : l.stackTraces = false) (hx9 : ∀ x ∈ c.exceptionTable.toList, False) {k28 : Hp → Int32 → Int32 → Int32 → Prop} (hk28 : ∀ (S : Hp) (v4 : Int32) (v5 : Int32) (v6 : Int32) (H : Heap) (locs : List Loc) (ls : Array Slot) (cells slots : Nat), k28 S v4 v5 v6 → Ok G S H → va_S (Ab G.b) s.heap H locs → lv_has ls 8 [(0, .ref x0), (1, .int x1), (2, .int x2), (3, .int x3), (4, .int v4), (5, .int v5), (6, .int v6)] → cells + (0) ≤ 2 → slots + (0) ≤ 12 → W p l e rm_X7_teeth s m args below meth c H locs cells slots (vx_MQ below (gQ G (PI Φ)) (gX G Ψ) args s rm_X7_teeth.cells rm_X7_teeth.slots (Ab G.b)) (F0 m 28 ls [])) : ∀ n9 : Nat, ∀ (S : Hp) (v4 : Int32) (v5 : Int32) (v6 : Int32) (v7 : Int32) (H : Heap) (locs : List Loc) (ls : Array Slot) (cells slots : Nat), it5 (wX7_teeth_b39 x0 x1 x2 x3 Φ Ψ k28) n9 S v4 v5 v6 v7 → Ok G S H → va_S (Ab G.b) s.heap H locs → lv_has ls 8 [(0, .ref x0), (1, .int x1), (2, .int x2), (3, .int x3), (4, .int v4), (5, .int v5), (6, .int v6), (7, .int v7)] → cells + (0) ≤ 2 → slots + (0) ≤ 12 → W p l e rm_X7_teeth s m args below meth c H locs cells slots (vx_MQ below (gQ G (PI Φ)) (gX G Ψ) args s rm_X7_teeth.cells rm_X7_teeth.slots (Ab G.b)) (F0 m 39 ls []) := by
  intro n9
  induction n9 with
  | zero => intro S v4 v5 v6 v7 H locs ls cells slots h; exact (h : False).elim
  | succ n9 ih => intro S v4 v5 v6 v7 H locs ls cells slots h hO hS hl hcc hss; exact bX7_teeth_b39 C0 Y hl9 hx9 hk28 ih S v4 v5 v6 v7 H locs ls cells slots h hO hS hl (by omega) (by omega)
def wX7_teeth_b28 (x0 : Nat) (x1 : Int32) (x2 : Int32) (x3 : Int32) (Φ : Hp → Int32 → Prop) (Ψ : Hp → String → Prop) (k28 : Hp → Int32 → Int32 → Int32 → Prop) (S : Hp) (v4 : Int32) (v5 : Int32) (v6 : Int32) : Prop := ((30 < v6 → ((x3 = 0 → Φ S v5) ∧ (¬ (x3 = 0) → Φ S v4))) ∧ (¬ (30 < v6) → ∃ n, it5 (wX7_teeth_b39 x0 x1 x2 x3 Φ Ψ k28) n S v4 v5 v6 6))
set_option maxHeartbeats 4000000 in
set_option maxRecDepth 100000 in
theorem bX7_teeth_b28 {p : Program} {l : Launch} {e : Env} {s : State} {m : MethodId} {args : Array Value} {below : List Frame} {meth : Method} {c : Code} {G : Gw} {x0 : Nat} {x1 : Int32} {x2 : Int32} {x3 : Int32} {Φ : Hp → Int32 → Prop} {Ψ : Hp → String → Prop} (C0 : Mx p s m c cX7_teeth 8 args yX7_teeth.cls G) (Y : My meth (some .int)) (hl9 : l.stackTraces = false) (hx9 : ∀ x ∈ c.exceptionTable.toList, False) {k28 : Hp → Int32 → Int32 → Int32 → Prop} (hk28 : ∀ (S : Hp) (v4 : Int32) (v5 : Int32) (v6 : Int32) (H : Heap) (locs : List Loc) (ls : Array Slot) (cells slots : Nat), k28 S v4 v5 v6 → Ok G S H → va_S (Ab G.b) s.heap H locs → lv_has ls 8 [(0, .ref x0), (1, .int x1), (2, .int x2), (3, .int x3), (4, .int v4), (5, .int v5), (6, .int v6)] → cells + (0) ≤ 2 → slots + (0) ≤ 12 → W p l e rm_X7_teeth s m args below meth c H locs cells slots (vx_MQ below (gQ G (PI Φ)) (gX G Ψ) args s rm_X7_teeth.cells rm_X7_teeth.slots (Ab G.b)) (F0 m 28 ls [])) : ∀ (S : Hp) (v4 : Int32) (v5 : Int32) (v6 : Int32) (H : Heap) (locs : List Loc) (ls : Array Slot) (cells slots : Nat), wX7_teeth_b28 x0 x1 x2 x3 Φ Ψ k28 S v4 v5 v6 → Ok G S H → va_S (Ab G.b) s.heap H locs → lv_has ls 8 [(0, .ref x0), (1, .int x1), (2, .int x2), (3, .int x3), (4, .int v4), (5, .int v5), (6, .int v6)] → cells + (0) ≤ 2 → slots + (0) ≤ 12 → W p l e rm_X7_teeth s m args below meth c H locs cells slots (vx_MQ below (gQ G (PI Φ)) (gX G Ψ) args s rm_X7_teeth.cells rm_X7_teeth.slots (Ab G.b)) (F0 m 28 ls []) := by
  intro S v4 v5 v6 H locs ls cells slots h hO hS hl hcc hss
  unfold wX7_teeth_b28 at h
  refine lv_iload C0.1 C0.2.1 dX7_teeth_28 (lv_at hl 6 rfl) ?_
  refine lv_bipush (v := 30) C0.1 C0.2.1 dX7_teeth_30 (by decide) ?_
  refine lv_icmp_gt (tgt := 82) C0.1 C0.2.1 dX7_teeth_32 (by decide) (fun c1 => ?_) (fun c1 => ?_)
  · have h := h.1 c1
    refine lv_iload_n C0.1 C0.2.1 dX7_teeth_82 rfl (lv_at hl 3 rfl) ?_
    refine lv_if_eq (tgt := 91) C0.1 C0.2.1 dX7_teeth_83 (by decide) (fun c2 => ?_) (fun c2 => ?_)
    · have h := h.1 c2
      refine lv_iload C0.1 C0.2.1 dX7_teeth_91 (lv_at hl 5 rfl) ?_
      refine vx_ret ?_
      exact e_I C0 Y hO hS h (by show _ ≤ 2; omega) (by show _ ≤ 12; omega) dX7_teeth_93
    · have h := h.2 c2
      refine lv_iload C0.1 C0.2.1 dX7_teeth_86 (lv_at hl 4 rfl) ?_
      refine lv_goto (tgt := 93) C0.1 C0.2.1 dX7_teeth_88 (by decide) ?_
      refine vx_ret ?_
      exact e_I C0 Y hO hS h (by show _ ≤ 2; omega) (by show _ ≤ 12; omega) dX7_teeth_93
  · have h := h.2 c1
    refine lv_bipush (v := 6) C0.1 C0.2.1 dX7_teeth_35 (by decide) ?_
    refine lv_istore C0.1 C0.2.1 dX7_teeth_37 hl (by decide) rfl (fun ls hl => ?_)
    obtain ⟨n9, h⟩ := h
    exact lX7_teeth_b39 C0 Y hl9 hx9 hk28 n9 _ _ _ _ _ _ _ _ _ _ h hO hS (lv_sub hl [1, 2, 3, 4, 5, 6, 7, 0] rfl) (by omega) (by omega)
set_option maxHeartbeats 4000000 in
set_option maxRecDepth 100000 in
theorem lX7_teeth_b28 {p : Program} {l : Launch} {e : Env} {s : State} {m : MethodId} {args : Array Value} {below : List Frame} {meth : Method} {c : Code} {G : Gw} {x0 : Nat} {x1 : Int32} {x2 : Int32} {x3 : Int32} {Φ : Hp → Int32 → Prop} {Ψ : Hp → String → Prop} (C0 : Mx p s m c cX7_teeth 8 args yX7_teeth.cls G) (Y : My meth (some .int)) (hl9 : l.stackTraces = false) (hx9 : ∀ x ∈ c.exceptionTable.toList, False)  : ∀ n9 : Nat, ∀ (S : Hp) (v4 : Int32) (v5 : Int32) (v6 : Int32) (H : Heap) (locs : List Loc) (ls : Array Slot) (cells slots : Nat), it4 (wX7_teeth_b28 x0 x1 x2 x3 Φ Ψ) n9 S v4 v5 v6 → Ok G S H → va_S (Ab G.b) s.heap H locs → lv_has ls 8 [(0, .ref x0), (1, .int x1), (2, .int x2), (3, .int x3), (4, .int v4), (5, .int v5), (6, .int v6)] → cells + (0) ≤ 2 → slots + (0) ≤ 12 → W p l e rm_X7_teeth s m args below meth c H locs cells slots (vx_MQ below (gQ G (PI Φ)) (gX G Ψ) args s rm_X7_teeth.cells rm_X7_teeth.slots (Ab G.b)) (F0 m 28 ls []) := by
  intro n9
  induction n9 with
  | zero => intro S v4 v5 v6 H locs ls cells slots h; exact (h : False).elim
  | succ n9 ih => intro S v4 v5 v6 H locs ls cells slots h hO hS hl hcc hss; exact bX7_teeth_b28 C0 Y hl9 hx9 ih S v4 v5 v6 H locs ls cells slots h hO hS hl (by omega) (by omega)
def wX7_teeth_b0 (x0 : Nat) (x1 : Int32) (x2 : Int32) (x3 : Int32) (Φ : Hp → Int32 → Prop) (Ψ : Hp → String → Prop) (S : Hp) : Prop := wX7_checkRange S x1 1 9999 (fun S1 => wX7_checkRange S1 x2 1 9999 (fun S2 => ∃ n, it4 (wX7_teeth_b28 x0 x1 x2 x3 Φ Ψ) n S2 6 6 6) Ψ) Ψ
set_option maxHeartbeats 4000000 in
set_option maxRecDepth 100000 in
theorem bX7_teeth_b0 {p : Program} {l : Launch} {e : Env} {s : State} {m : MethodId} {args : Array Value} {below : List Frame} {meth : Method} {c : Code} {G : Gw} {x0 : Nat} {x1 : Int32} {x2 : Int32} {x3 : Int32} {Φ : Hp → Int32 → Prop} {Ψ : Hp → String → Prop} (C0 : Mx p s m c cX7_teeth 8 args yX7_teeth.cls G) (Y : My meth (some .int)) (hl9 : l.stackTraces = false) (hx9 : ∀ x ∈ c.exceptionTable.toList, False)  : ∀ (S : Hp) (H : Heap) (locs : List Loc) (ls : Array Slot) (cells slots : Nat), wX7_teeth_b0 x0 x1 x2 x3 Φ Ψ S → Ok G S H → va_S (Ab G.b) s.heap H locs → lv_has ls 8 [(0, .ref x0), (1, .int x1), (2, .int x2), (3, .int x3)] → cells + (2) ≤ 2 → slots + (12) ≤ 12 → W p l e rm_X7_teeth s m args below meth c H locs cells slots (vx_MQ below (gQ G (PI Φ)) (gX G Ψ) args s rm_X7_teeth.cells rm_X7_teeth.slots (Ab G.b)) (F0 m 0 ls []) := by
  intro S H locs ls cells slots h hO hS hl hcc hss
  unfold wX7_teeth_b0 at h
  refine lv_iload_n C0.1 C0.2.1 dX7_teeth_0 rfl (lv_at hl 1 rfl) ?_
  refine lv_iconst (v := 1) C0.1 C0.2.1 dX7_teeth_1 (by decide) ?_
  refine lv_sipush (v := 9999) C0.1 C0.2.1 dX7_teeth_2 (by decide) ?_
  refine x_S C0 Y.2 hx9 hO hS (mX7_checkRange hl9 h) tb_758 tb_759 tb_74 tb_760 hd_X7_checkRange rfl ⟨⟨by decide, by decide⟩, by show _ + 1 ≤ 2; omega, by show _ + 6 ≤ 12; omega⟩ hl.1 rfl (Nat.le_of_ble_eq_true rfl) dX7_teeth_5 (by show _ + 1 ≤ 2; omega) (by show _ + 6 ≤ 12; omega) (kV (fun S1 H locs h hO hS => ?_))
  change W _ _ _ _ _ _ _ _ _ _ _ _ (_ + 1) (_ + 6) _ _
  refine lv_iload_n C0.1 C0.2.1 dX7_teeth_8 rfl (lv_at hl 2 rfl) ?_
  refine lv_iconst (v := 1) C0.1 C0.2.1 dX7_teeth_9 (by decide) ?_
  refine lv_sipush (v := 9999) C0.1 C0.2.1 dX7_teeth_10 (by decide) ?_
  refine x_S C0 Y.2 hx9 hO hS (mX7_checkRange hl9 h) tb_758 tb_759 tb_74 tb_760 hd_X7_checkRange rfl ⟨⟨by decide, by decide⟩, by show _ + 1 ≤ 2; omega, by show _ + 6 ≤ 12; omega⟩ hl.1 rfl (Nat.le_of_ble_eq_true rfl) dX7_teeth_13 (by show _ + 1 ≤ 2; omega) (by show _ + 6 ≤ 12; omega) (kV (fun S2 H locs h hO hS => ?_))
  change W _ _ _ _ _ _ _ _ _ _ _ _ (_ + 1) (_ + 6) _ _
  refine lv_bipush (v := 6) C0.1 C0.2.1 dX7_teeth_16 (by decide) ?_
  refine lv_istore C0.1 C0.2.1 dX7_teeth_18 hl (by decide) rfl (fun ls hl => ?_)
  refine lv_bipush (v := 6) C0.1 C0.2.1 dX7_teeth_20 (by decide) ?_
  refine lv_istore C0.1 C0.2.1 dX7_teeth_22 hl (by decide) rfl (fun ls hl => ?_)
  refine lv_bipush (v := 6) C0.1 C0.2.1 dX7_teeth_24 (by decide) ?_
  refine lv_istore C0.1 C0.2.1 dX7_teeth_26 hl (by decide) rfl (fun ls hl => ?_)
  obtain ⟨n9, h⟩ := h
  exact lX7_teeth_b28 C0 Y hl9 hx9 n9 _ _ _ _ _ _ _ _ _ h hO hS (lv_sub hl [3, 4, 5, 6, 2, 1, 0] rfl) (by omega) (by omega)
def wX7_teeth (S : Hp) (x0 : Nat) (x1 : Int32) (x2 : Int32) (x3 : Int32) (Φ : Hp → Int32 → Prop) (Ψ : Hp → String → Prop) : Prop := wX7_teeth_b0 x0 x1 x2 x3 Φ Ψ S
set_option maxRecDepth 100000 in
theorem mX7_teeth {l : Launch} {G : Gw} (hl9 : l.stackTraces = false) {S : Hp} {x0 : Nat} {x1 : Int32} {x2 : Int32} {x3 : Int32} {Φ : Hp → Int32 → Prop} {Ψ : Hp → String → Prop} (h : wX7_teeth S x0 x1 x2 x3 Φ Ψ) : gT l yX7_teeth cX7_teeth 8 (some .int) rm_X7_teeth [.ref x0, .int x1, .int x2, .int x3] G S (PI Φ) Ψ := by
  unfold gT
  refine vx_ofW (cc := cX7_teeth) (maxL := 8) (ret := (some .int)) (by decide) rfl ?_
  intro p e s m args below meth c s₁ B hml hx9 hv
  obtain ⟨rfl, hw⟩ := hv
  obtain ⟨C0, Y, hO⟩ := mx_of B hml hw
  have hS : va_S (Ab G.b) s.heap s.heap [] := va_S.rf
  have hl := lv_entry ([.ref x0, .int x1, .int x2, .int x3]) (n := 8) (Nat.le_of_ble_eq_true rfl)
  rw [lg_entry_eq]
  generalize (lg_sl ([.ref x0, .int x1, .int x2, .int x3]) ++ List.replicate (8 - (lg_sl ([.ref x0, .int x1, .int x2, .int x3])).length) Slot.unset).toArray = ls at hl ⊢
  have hl : lv_has ls 8 [(0, .ref x0), (1, .int x1), (2, .int x2), (3, .int x3)] := hl
  exact bX7_teeth_b0 C0 Y hl9 hx9 S _ _ _ 0 0 h hO hS hl (by decide) (by decide)

def rm_X7_pairs : Room := { frames := 7, cells := 2, slots := 12, locals := 112 }
def wX7_pairs_b54 (x0 : Nat) (x1 : Int32) (x2 : Int32) (Φ : Hp → Int32 → Prop) (Ψ : Hp → String → Prop) (k22 : Hp → Int32 → Int32 → Prop) (k33 : Hp → Int32 → Int32 → Int32 → Prop) (S : Hp) (v3 : Int32) (v4 : Int32) (v5 : Int32) : Prop := k33 S v3 v4 (v5 + 1)
set_option maxHeartbeats 4000000 in
set_option maxRecDepth 100000 in
theorem bX7_pairs_b54 {p : Program} {l : Launch} {e : Env} {s : State} {m : MethodId} {args : Array Value} {below : List Frame} {meth : Method} {c : Code} {G : Gw} {x0 : Nat} {x1 : Int32} {x2 : Int32} {Φ : Hp → Int32 → Prop} {Ψ : Hp → String → Prop} (C0 : Mx p s m c cX7_pairs 6 args yX7_pairs.cls G) (Y : My meth (some .int)) (hl9 : l.stackTraces = false) (hx9 : ∀ x ∈ c.exceptionTable.toList, False) {k22 : Hp → Int32 → Int32 → Prop} (hk22 : ∀ (S : Hp) (v3 : Int32) (v4 : Int32) (H : Heap) (locs : List Loc) (ls : Array Slot) (cells slots : Nat), k22 S v3 v4 → Ok G S H → va_S (Ab G.b) s.heap H locs → lv_has ls 6 [(0, .ref x0), (1, .int x1), (2, .int x2), (3, .int v3), (4, .int v4)] → cells + (0) ≤ 2 → slots + (0) ≤ 12 → W p l e rm_X7_pairs s m args below meth c H locs cells slots (vx_MQ below (gQ G (PI Φ)) (gX G Ψ) args s rm_X7_pairs.cells rm_X7_pairs.slots (Ab G.b)) (F0 m 22 ls [])) {k33 : Hp → Int32 → Int32 → Int32 → Prop} (hk33 : ∀ (S : Hp) (v3 : Int32) (v4 : Int32) (v5 : Int32) (H : Heap) (locs : List Loc) (ls : Array Slot) (cells slots : Nat), k33 S v3 v4 v5 → Ok G S H → va_S (Ab G.b) s.heap H locs → lv_has ls 6 [(0, .ref x0), (1, .int x1), (2, .int x2), (3, .int v3), (4, .int v4), (5, .int v5)] → cells + (0) ≤ 2 → slots + (0) ≤ 12 → W p l e rm_X7_pairs s m args below meth c H locs cells slots (vx_MQ below (gQ G (PI Φ)) (gX G Ψ) args s rm_X7_pairs.cells rm_X7_pairs.slots (Ab G.b)) (F0 m 33 ls [])) : ∀ (S : Hp) (v3 : Int32) (v4 : Int32) (v5 : Int32) (H : Heap) (locs : List Loc) (ls : Array Slot) (cells slots : Nat), wX7_pairs_b54 x0 x1 x2 Φ Ψ k22 k33 S v3 v4 v5 → Ok G S H → va_S (Ab G.b) s.heap H locs → lv_has ls 6 [(0, .ref x0), (1, .int x1), (2, .int x2), (3, .int v3), (4, .int v4), (5, .int v5)] → cells + (0) ≤ 2 → slots + (0) ≤ 12 → W p l e rm_X7_pairs s m args below meth c H locs cells slots (vx_MQ below (gQ G (PI Φ)) (gX G Ψ) args s rm_X7_pairs.cells rm_X7_pairs.slots (Ab G.b)) (F0 m 54 ls []) := by
  intro S v3 v4 v5 H locs ls cells slots h hO hS hl hcc hss
  unfold wX7_pairs_b54 at h
  refine lv_iinc (v := _ + 1) C0.1 C0.2.1 dX7_pairs_54 hl (k := 5) rfl rfl (by decide) rfl (fun ls hl => ?_)
  refine lv_goto (tgt := 33) C0.1 C0.2.1 dX7_pairs_57 (by decide) ?_
  exact hk33 _ _ _ _ _ _ _ _ _ h hO hS (lv_sub hl [1, 2, 3, 4, 5, 0] rfl) (by omega) (by omega)
def wX7_pairs_b33 (x0 : Nat) (x1 : Int32) (x2 : Int32) (Φ : Hp → Int32 → Prop) (Ψ : Hp → String → Prop) (k22 : Hp → Int32 → Int32 → Prop) (k33 : Hp → Int32 → Int32 → Int32 → Prop) (S : Hp) (v3 : Int32) (v4 : Int32) (v5 : Int32) : Prop := ((30 < v5 → k22 S v3 (v4 + 1)) ∧ (¬ (30 < v5) → ((¬ (v4 * x2) = (v5 * x1) → wX7_pairs_b54 x0 x1 x2 Φ Ψ k22 k33 S v3 v4 v5) ∧ ((v4 * x2) = (v5 * x1) → wX7_pairs_b54 x0 x1 x2 Φ Ψ k22 k33 S (v3 + 1) v4 v5))))
set_option maxHeartbeats 4000000 in
set_option maxRecDepth 100000 in
theorem bX7_pairs_b33 {p : Program} {l : Launch} {e : Env} {s : State} {m : MethodId} {args : Array Value} {below : List Frame} {meth : Method} {c : Code} {G : Gw} {x0 : Nat} {x1 : Int32} {x2 : Int32} {Φ : Hp → Int32 → Prop} {Ψ : Hp → String → Prop} (C0 : Mx p s m c cX7_pairs 6 args yX7_pairs.cls G) (Y : My meth (some .int)) (hl9 : l.stackTraces = false) (hx9 : ∀ x ∈ c.exceptionTable.toList, False) {k22 : Hp → Int32 → Int32 → Prop} (hk22 : ∀ (S : Hp) (v3 : Int32) (v4 : Int32) (H : Heap) (locs : List Loc) (ls : Array Slot) (cells slots : Nat), k22 S v3 v4 → Ok G S H → va_S (Ab G.b) s.heap H locs → lv_has ls 6 [(0, .ref x0), (1, .int x1), (2, .int x2), (3, .int v3), (4, .int v4)] → cells + (0) ≤ 2 → slots + (0) ≤ 12 → W p l e rm_X7_pairs s m args below meth c H locs cells slots (vx_MQ below (gQ G (PI Φ)) (gX G Ψ) args s rm_X7_pairs.cells rm_X7_pairs.slots (Ab G.b)) (F0 m 22 ls [])) {k33 : Hp → Int32 → Int32 → Int32 → Prop} (hk33 : ∀ (S : Hp) (v3 : Int32) (v4 : Int32) (v5 : Int32) (H : Heap) (locs : List Loc) (ls : Array Slot) (cells slots : Nat), k33 S v3 v4 v5 → Ok G S H → va_S (Ab G.b) s.heap H locs → lv_has ls 6 [(0, .ref x0), (1, .int x1), (2, .int x2), (3, .int v3), (4, .int v4), (5, .int v5)] → cells + (0) ≤ 2 → slots + (0) ≤ 12 → W p l e rm_X7_pairs s m args below meth c H locs cells slots (vx_MQ below (gQ G (PI Φ)) (gX G Ψ) args s rm_X7_pairs.cells rm_X7_pairs.slots (Ab G.b)) (F0 m 33 ls [])) : ∀ (S : Hp) (v3 : Int32) (v4 : Int32) (v5 : Int32) (H : Heap) (locs : List Loc) (ls : Array Slot) (cells slots : Nat), wX7_pairs_b33 x0 x1 x2 Φ Ψ k22 k33 S v3 v4 v5 → Ok G S H → va_S (Ab G.b) s.heap H locs → lv_has ls 6 [(0, .ref x0), (1, .int x1), (2, .int x2), (3, .int v3), (4, .int v4), (5, .int v5)] → cells + (0) ≤ 2 → slots + (0) ≤ 12 → W p l e rm_X7_pairs s m args below meth c H locs cells slots (vx_MQ below (gQ G (PI Φ)) (gX G Ψ) args s rm_X7_pairs.cells rm_X7_pairs.slots (Ab G.b)) (F0 m 33 ls []) := by
  intro S v3 v4 v5 H locs ls cells slots h hO hS hl hcc hss
  unfold wX7_pairs_b33 at h
  refine lv_iload C0.1 C0.2.1 dX7_pairs_33 (lv_at hl 5 rfl) ?_
  refine lv_bipush (v := 30) C0.1 C0.2.1 dX7_pairs_35 (by decide) ?_
  refine lv_icmp_gt (tgt := 60) C0.1 C0.2.1 dX7_pairs_37 (by decide) (fun c1 => ?_) (fun c1 => ?_)
  · have h := h.1 c1
    refine lv_iinc (v := _ + 1) C0.1 C0.2.1 dX7_pairs_60 hl (k := 4) rfl rfl (by decide) rfl (fun ls hl => ?_)
    refine lv_goto (tgt := 22) C0.1 C0.2.1 dX7_pairs_63 (by decide) ?_
    exact hk22 _ _ _ _ _ _ _ _ h hO hS (lv_sub hl [1, 2, 3, 4, 0] rfl) (by omega) (by omega)
  · have h := h.2 c1
    refine lv_iload C0.1 C0.2.1 dX7_pairs_40 (lv_at hl 4 rfl) ?_
    refine lv_iload_n C0.1 C0.2.1 dX7_pairs_42 rfl (lv_at hl 2 rfl) ?_
    refine lv_imul C0.1 C0.2.1 dX7_pairs_43 ?_
    refine lv_iload C0.1 C0.2.1 dX7_pairs_44 (lv_at hl 5 rfl) ?_
    refine lv_iload_n C0.1 C0.2.1 dX7_pairs_46 rfl (lv_at hl 1 rfl) ?_
    refine lv_imul C0.1 C0.2.1 dX7_pairs_47 ?_
    refine lv_icmp_ne (tgt := 54) C0.1 C0.2.1 dX7_pairs_48 (by decide) (fun c2 => ?_) (fun c2 => ?_)
    · have h := h.1 c2
      exact bX7_pairs_b54 C0 Y hl9 hx9 hk22 hk33 _ _ _ _ _ _ _ _ _ h hO hS (lv_sub hl [0, 1, 2, 3, 4, 5] rfl) (by omega) (by omega)
    · have h := h.2 c2
      refine lv_iinc (v := _ + 1) C0.1 C0.2.1 dX7_pairs_51 hl (k := 3) rfl rfl (by decide) rfl (fun ls hl => ?_)
      exact bX7_pairs_b54 C0 Y hl9 hx9 hk22 hk33 _ _ _ _ _ _ _ _ _ h hO hS (lv_sub hl [1, 2, 3, 0, 4, 5] rfl) (by omega) (by omega)
set_option maxHeartbeats 4000000 in
set_option maxRecDepth 100000 in
theorem lX7_pairs_b33 {p : Program} {l : Launch} {e : Env} {s : State} {m : MethodId} {args : Array Value} {below : List Frame} {meth : Method} {c : Code} {G : Gw} {x0 : Nat} {x1 : Int32} {x2 : Int32} {Φ : Hp → Int32 → Prop} {Ψ : Hp → String → Prop} (C0 : Mx p s m c cX7_pairs 6 args yX7_pairs.cls G) (Y : My meth (some .int)) (hl9 : l.stackTraces = false) (hx9 : ∀ x ∈ c.exceptionTable.toList, False) {k22 : Hp → Int32 → Int32 → Prop} (hk22 : ∀ (S : Hp) (v3 : Int32) (v4 : Int32) (H : Heap) (locs : List Loc) (ls : Array Slot) (cells slots : Nat), k22 S v3 v4 → Ok G S H → va_S (Ab G.b) s.heap H locs → lv_has ls 6 [(0, .ref x0), (1, .int x1), (2, .int x2), (3, .int v3), (4, .int v4)] → cells + (0) ≤ 2 → slots + (0) ≤ 12 → W p l e rm_X7_pairs s m args below meth c H locs cells slots (vx_MQ below (gQ G (PI Φ)) (gX G Ψ) args s rm_X7_pairs.cells rm_X7_pairs.slots (Ab G.b)) (F0 m 22 ls [])) : ∀ n9 : Nat, ∀ (S : Hp) (v3 : Int32) (v4 : Int32) (v5 : Int32) (H : Heap) (locs : List Loc) (ls : Array Slot) (cells slots : Nat), it4 (wX7_pairs_b33 x0 x1 x2 Φ Ψ k22) n9 S v3 v4 v5 → Ok G S H → va_S (Ab G.b) s.heap H locs → lv_has ls 6 [(0, .ref x0), (1, .int x1), (2, .int x2), (3, .int v3), (4, .int v4), (5, .int v5)] → cells + (0) ≤ 2 → slots + (0) ≤ 12 → W p l e rm_X7_pairs s m args below meth c H locs cells slots (vx_MQ below (gQ G (PI Φ)) (gX G Ψ) args s rm_X7_pairs.cells rm_X7_pairs.slots (Ab G.b)) (F0 m 33 ls []) := by
  intro n9
  induction n9 with
  | zero => intro S v3 v4 v5 H locs ls cells slots h; exact (h : False).elim
  | succ n9 ih => intro S v3 v4 v5 H locs ls cells slots h hO hS hl hcc hss; exact bX7_pairs_b33 C0 Y hl9 hx9 hk22 ih S v3 v4 v5 H locs ls cells slots h hO hS hl (by omega) (by omega)
def wX7_pairs_b22 (x0 : Nat) (x1 : Int32) (x2 : Int32) (Φ : Hp → Int32 → Prop) (Ψ : Hp → String → Prop) (k22 : Hp → Int32 → Int32 → Prop) (S : Hp) (v3 : Int32) (v4 : Int32) : Prop := ((30 < v4 → Φ S v3) ∧ (¬ (30 < v4) → ∃ n, it4 (wX7_pairs_b33 x0 x1 x2 Φ Ψ k22) n S v3 v4 6))
set_option maxHeartbeats 4000000 in
set_option maxRecDepth 100000 in
theorem bX7_pairs_b22 {p : Program} {l : Launch} {e : Env} {s : State} {m : MethodId} {args : Array Value} {below : List Frame} {meth : Method} {c : Code} {G : Gw} {x0 : Nat} {x1 : Int32} {x2 : Int32} {Φ : Hp → Int32 → Prop} {Ψ : Hp → String → Prop} (C0 : Mx p s m c cX7_pairs 6 args yX7_pairs.cls G) (Y : My meth (some .int)) (hl9 : l.stackTraces = false) (hx9 : ∀ x ∈ c.exceptionTable.toList, False) {k22 : Hp → Int32 → Int32 → Prop} (hk22 : ∀ (S : Hp) (v3 : Int32) (v4 : Int32) (H : Heap) (locs : List Loc) (ls : Array Slot) (cells slots : Nat), k22 S v3 v4 → Ok G S H → va_S (Ab G.b) s.heap H locs → lv_has ls 6 [(0, .ref x0), (1, .int x1), (2, .int x2), (3, .int v3), (4, .int v4)] → cells + (0) ≤ 2 → slots + (0) ≤ 12 → W p l e rm_X7_pairs s m args below meth c H locs cells slots (vx_MQ below (gQ G (PI Φ)) (gX G Ψ) args s rm_X7_pairs.cells rm_X7_pairs.slots (Ab G.b)) (F0 m 22 ls [])) : ∀ (S : Hp) (v3 : Int32) (v4 : Int32) (H : Heap) (locs : List Loc) (ls : Array Slot) (cells slots : Nat), wX7_pairs_b22 x0 x1 x2 Φ Ψ k22 S v3 v4 → Ok G S H → va_S (Ab G.b) s.heap H locs → lv_has ls 6 [(0, .ref x0), (1, .int x1), (2, .int x2), (3, .int v3), (4, .int v4)] → cells + (0) ≤ 2 → slots + (0) ≤ 12 → W p l e rm_X7_pairs s m args below meth c H locs cells slots (vx_MQ below (gQ G (PI Φ)) (gX G Ψ) args s rm_X7_pairs.cells rm_X7_pairs.slots (Ab G.b)) (F0 m 22 ls []) := by
  intro S v3 v4 H locs ls cells slots h hO hS hl hcc hss
  unfold wX7_pairs_b22 at h
  refine lv_iload C0.1 C0.2.1 dX7_pairs_22 (lv_at hl 4 rfl) ?_
  refine lv_bipush (v := 30) C0.1 C0.2.1 dX7_pairs_24 (by decide) ?_
  refine lv_icmp_gt (tgt := 66) C0.1 C0.2.1 dX7_pairs_26 (by decide) (fun c1 => ?_) (fun c1 => ?_)
  · have h := h.1 c1
    refine lv_iload_n C0.1 C0.2.1 dX7_pairs_66 rfl (lv_at hl 3 rfl) ?_
    refine vx_ret ?_
    exact e_I C0 Y hO hS h (by show _ ≤ 2; omega) (by show _ ≤ 12; omega) dX7_pairs_67
  · have h := h.2 c1
    refine lv_bipush (v := 6) C0.1 C0.2.1 dX7_pairs_29 (by decide) ?_
    refine lv_istore C0.1 C0.2.1 dX7_pairs_31 hl (by decide) rfl (fun ls hl => ?_)
    obtain ⟨n9, h⟩ := h
    exact lX7_pairs_b33 C0 Y hl9 hx9 hk22 n9 _ _ _ _ _ _ _ _ _ h hO hS (lv_sub hl [1, 2, 3, 4, 5, 0] rfl) (by omega) (by omega)
set_option maxHeartbeats 4000000 in
set_option maxRecDepth 100000 in
theorem lX7_pairs_b22 {p : Program} {l : Launch} {e : Env} {s : State} {m : MethodId} {args : Array Value} {below : List Frame} {meth : Method} {c : Code} {G : Gw} {x0 : Nat} {x1 : Int32} {x2 : Int32} {Φ : Hp → Int32 → Prop} {Ψ : Hp → String → Prop} (C0 : Mx p s m c cX7_pairs 6 args yX7_pairs.cls G) (Y : My meth (some .int)) (hl9 : l.stackTraces = false) (hx9 : ∀ x ∈ c.exceptionTable.toList, False)  : ∀ n9 : Nat, ∀ (S : Hp) (v3 : Int32) (v4 : Int32) (H : Heap) (locs : List Loc) (ls : Array Slot) (cells slots : Nat), it3 (wX7_pairs_b22 x0 x1 x2 Φ Ψ) n9 S v3 v4 → Ok G S H → va_S (Ab G.b) s.heap H locs → lv_has ls 6 [(0, .ref x0), (1, .int x1), (2, .int x2), (3, .int v3), (4, .int v4)] → cells + (0) ≤ 2 → slots + (0) ≤ 12 → W p l e rm_X7_pairs s m args below meth c H locs cells slots (vx_MQ below (gQ G (PI Φ)) (gX G Ψ) args s rm_X7_pairs.cells rm_X7_pairs.slots (Ab G.b)) (F0 m 22 ls []) := by
  intro n9
  induction n9 with
  | zero => intro S v3 v4 H locs ls cells slots h; exact (h : False).elim
  | succ n9 ih => intro S v3 v4 H locs ls cells slots h hO hS hl hcc hss; exact bX7_pairs_b22 C0 Y hl9 hx9 ih S v3 v4 H locs ls cells slots h hO hS hl (by omega) (by omega)
def wX7_pairs_b0 (x0 : Nat) (x1 : Int32) (x2 : Int32) (Φ : Hp → Int32 → Prop) (Ψ : Hp → String → Prop) (S : Hp) : Prop := wX7_checkRange S x1 1 9999 (fun S1 => wX7_checkRange S1 x2 1 9999 (fun S2 => ∃ n, it3 (wX7_pairs_b22 x0 x1 x2 Φ Ψ) n S2 0 6) Ψ) Ψ
set_option maxHeartbeats 4000000 in
set_option maxRecDepth 100000 in
theorem bX7_pairs_b0 {p : Program} {l : Launch} {e : Env} {s : State} {m : MethodId} {args : Array Value} {below : List Frame} {meth : Method} {c : Code} {G : Gw} {x0 : Nat} {x1 : Int32} {x2 : Int32} {Φ : Hp → Int32 → Prop} {Ψ : Hp → String → Prop} (C0 : Mx p s m c cX7_pairs 6 args yX7_pairs.cls G) (Y : My meth (some .int)) (hl9 : l.stackTraces = false) (hx9 : ∀ x ∈ c.exceptionTable.toList, False)  : ∀ (S : Hp) (H : Heap) (locs : List Loc) (ls : Array Slot) (cells slots : Nat), wX7_pairs_b0 x0 x1 x2 Φ Ψ S → Ok G S H → va_S (Ab G.b) s.heap H locs → lv_has ls 6 [(0, .ref x0), (1, .int x1), (2, .int x2)] → cells + (2) ≤ 2 → slots + (12) ≤ 12 → W p l e rm_X7_pairs s m args below meth c H locs cells slots (vx_MQ below (gQ G (PI Φ)) (gX G Ψ) args s rm_X7_pairs.cells rm_X7_pairs.slots (Ab G.b)) (F0 m 0 ls []) := by
  intro S H locs ls cells slots h hO hS hl hcc hss
  unfold wX7_pairs_b0 at h
  refine lv_iload_n C0.1 C0.2.1 dX7_pairs_0 rfl (lv_at hl 1 rfl) ?_
  refine lv_iconst (v := 1) C0.1 C0.2.1 dX7_pairs_1 (by decide) ?_
  refine lv_sipush (v := 9999) C0.1 C0.2.1 dX7_pairs_2 (by decide) ?_
  refine x_S C0 Y.2 hx9 hO hS (mX7_checkRange hl9 h) tb_758 tb_759 tb_74 tb_760 hd_X7_checkRange rfl ⟨⟨by decide, by decide⟩, by show _ + 1 ≤ 2; omega, by show _ + 6 ≤ 12; omega⟩ hl.1 rfl (Nat.le_of_ble_eq_true rfl) dX7_pairs_5 (by show _ + 1 ≤ 2; omega) (by show _ + 6 ≤ 12; omega) (kV (fun S1 H locs h hO hS => ?_))
  change W _ _ _ _ _ _ _ _ _ _ _ _ (_ + 1) (_ + 6) _ _
  refine lv_iload_n C0.1 C0.2.1 dX7_pairs_8 rfl (lv_at hl 2 rfl) ?_
  refine lv_iconst (v := 1) C0.1 C0.2.1 dX7_pairs_9 (by decide) ?_
  refine lv_sipush (v := 9999) C0.1 C0.2.1 dX7_pairs_10 (by decide) ?_
  refine x_S C0 Y.2 hx9 hO hS (mX7_checkRange hl9 h) tb_758 tb_759 tb_74 tb_760 hd_X7_checkRange rfl ⟨⟨by decide, by decide⟩, by show _ + 1 ≤ 2; omega, by show _ + 6 ≤ 12; omega⟩ hl.1 rfl (Nat.le_of_ble_eq_true rfl) dX7_pairs_13 (by show _ + 1 ≤ 2; omega) (by show _ + 6 ≤ 12; omega) (kV (fun S2 H locs h hO hS => ?_))
  change W _ _ _ _ _ _ _ _ _ _ _ _ (_ + 1) (_ + 6) _ _
  refine lv_iconst (v := 0) C0.1 C0.2.1 dX7_pairs_16 (by decide) ?_
  refine lv_istore_n C0.1 C0.2.1 dX7_pairs_17 rfl hl (by decide) rfl (fun ls hl => ?_)
  refine lv_bipush (v := 6) C0.1 C0.2.1 dX7_pairs_18 (by decide) ?_
  refine lv_istore C0.1 C0.2.1 dX7_pairs_20 hl (by decide) rfl (fun ls hl => ?_)
  obtain ⟨n9, h⟩ := h
  exact lX7_pairs_b22 C0 Y hl9 hx9 n9 _ _ _ _ _ _ _ _ h hO hS (lv_sub hl [2, 3, 4, 1, 0] rfl) (by omega) (by omega)
def wX7_pairs (S : Hp) (x0 : Nat) (x1 : Int32) (x2 : Int32) (Φ : Hp → Int32 → Prop) (Ψ : Hp → String → Prop) : Prop := wX7_pairs_b0 x0 x1 x2 Φ Ψ S
set_option maxRecDepth 100000 in
theorem mX7_pairs {l : Launch} {G : Gw} (hl9 : l.stackTraces = false) {S : Hp} {x0 : Nat} {x1 : Int32} {x2 : Int32} {Φ : Hp → Int32 → Prop} {Ψ : Hp → String → Prop} (h : wX7_pairs S x0 x1 x2 Φ Ψ) : gT l yX7_pairs cX7_pairs 6 (some .int) rm_X7_pairs [.ref x0, .int x1, .int x2] G S (PI Φ) Ψ := by
  unfold gT
  refine vx_ofW (cc := cX7_pairs) (maxL := 6) (ret := (some .int)) (by decide) rfl ?_
  intro p e s m args below meth c s₁ B hml hx9 hv
  obtain ⟨rfl, hw⟩ := hv
  obtain ⟨C0, Y, hO⟩ := mx_of B hml hw
  have hS : va_S (Ab G.b) s.heap s.heap [] := va_S.rf
  have hl := lv_entry ([.ref x0, .int x1, .int x2]) (n := 6) (Nat.le_of_ble_eq_true rfl)
  rw [lg_entry_eq]
  generalize (lg_sl ([.ref x0, .int x1, .int x2]) ++ List.replicate (6 - (lg_sl ([.ref x0, .int x1, .int x2])).length) Slot.unset).toArray = ls at hl ⊢
  have hl : lv_has ls 6 [(0, .ref x0), (1, .int x1), (2, .int x2)] := hl
  exact bX7_pairs_b0 C0 Y hl9 hx9 S _ _ _ 0 0 h hO hS hl (by decide) (by decide)

def rm_X7_checksum : Room := { frames := 3, cells := 0, slots := 0, locals := 64 }
def wX7_checksum_b85 (x0 : Nat) (Φ : Hp → Int64 → Prop) (k58 : Hp → Int64 → Int32 → Prop) (k85 : Hp → Int64 → Int32 → Nat → Int32 → Prop) (S : Hp) (v1 : Int64) (v3 : Int32) (v4 : Nat) (v5 : Int32) : Prop := ((8 ≤ v5 → k58 S v1 (v3 + 1)) ∧ (¬ (8 ≤ v5) → isA S v4 2 ∧ ∃ a3, S.FR 130 v4 = some a3 ∧ isA S a3 21 ∧ vp_in v5 (S.N a3) ∧ k85 S ((31 * v1) + ((S.AI a3 v5.toNatClampNeg).toInt64)) v3 v4 (v5 + 1)))
set_option maxHeartbeats 4000000 in
set_option maxRecDepth 100000 in
theorem bX7_checksum_b85 {p : Program} {l : Launch} {e : Env} {s : State} {m : MethodId} {args : Array Value} {below : List Frame} {meth : Method} {c : Code} {G : Gw} {x0 : Nat} {Φ : Hp → Int64 → Prop} (C0 : Mx p s m c cX7_checksum 6 args yX7_checksum.cls G) (Y : My meth (some .long)) {k58 : Hp → Int64 → Int32 → Prop} (hk58 : ∀ (S : Hp) (v1 : Int64) (v3 : Int32) (H : Heap) (locs : List Loc) (ls : Array Slot), k58 S v1 v3 → Ok G S H → va_S (Ab G.b) s.heap H locs → lv_has ls 6 [(0, .ref x0), (1, .long v1), (3, .int v3)] → W p l e rm_X7_checksum s m args below meth c H locs 0 0 (MQ below (gQ G (PJ Φ)) args s rm_X7_checksum.cells rm_X7_checksum.slots (Ab G.b)) (F0 m 58 ls [])) {k85 : Hp → Int64 → Int32 → Nat → Int32 → Prop} (hk85 : ∀ (S : Hp) (v1 : Int64) (v3 : Int32) (v4 : Nat) (v5 : Int32) (H : Heap) (locs : List Loc) (ls : Array Slot), k85 S v1 v3 v4 v5 → Ok G S H → va_S (Ab G.b) s.heap H locs → lv_has ls 6 [(0, .ref x0), (1, .long v1), (3, .int v3), (4, .ref v4), (5, .int v5)] → W p l e rm_X7_checksum s m args below meth c H locs 0 0 (MQ below (gQ G (PJ Φ)) args s rm_X7_checksum.cells rm_X7_checksum.slots (Ab G.b)) (F0 m 85 ls [])) : ∀ (S : Hp) (v1 : Int64) (v3 : Int32) (v4 : Nat) (v5 : Int32) (H : Heap) (locs : List Loc) (ls : Array Slot), wX7_checksum_b85 x0 Φ k58 k85 S v1 v3 v4 v5 → Ok G S H → va_S (Ab G.b) s.heap H locs → lv_has ls 6 [(0, .ref x0), (1, .long v1), (3, .int v3), (4, .ref v4), (5, .int v5)] → W p l e rm_X7_checksum s m args below meth c H locs 0 0 (MQ below (gQ G (PJ Φ)) args s rm_X7_checksum.cells rm_X7_checksum.slots (Ab G.b)) (F0 m 85 ls []) := by
  intro S v1 v3 v4 v5 H locs ls h hO hS hl
  unfold wX7_checksum_b85 at h
  refine lv_iload C0.1 C0.2.1 dX7_checksum_85 (lv_at hl 4 rfl) ?_
  refine lv_bipush (v := 8) C0.1 C0.2.1 dX7_checksum_87 (by decide) ?_
  refine lv_icmp_ge (tgt := 114) C0.1 C0.2.1 dX7_checksum_89 (by decide) (fun c1 => ?_) (fun c1 => ?_)
  · have h := h.1 c1
    refine lv_iinc (v := _ + 1) C0.1 C0.2.1 dX7_checksum_114 hl (k := 2) rfl rfl (by decide) rfl (fun ls hl => ?_)
    refine lv_goto (tgt := 58) C0.1 C0.2.1 dX7_checksum_117 (by decide) ?_
    exact hk58 _ _ _ _ _ _ h hO hS (lv_sub hl [1, 2, 0] rfl)
  · have h := h.2 c1
    refine lv_ldc2 (v := 31) C0.1 C0.2.1 C0.2.2.2.1 (C0.2.2.2.2.1 _ tb_248) dX7_checksum_92 ?_
    refine lv_lload_n C0.1 C0.2.1 dX7_checksum_95 rfl (lv_at hl 1 rfl) ?_
    refine lv_lmul C0.1 C0.2.1 dX7_checksum_96 ?_
    refine lv_aload C0.1 C0.2.1 dX7_checksum_97 (lv_at hl 3 rfl) ?_
    obtain ⟨i2, h⟩ := h
    obtain ⟨a3, ea3, h⟩ := h
    refine g2_2 C0 hO i2 ea3 tb_1144 dX7_checksum_99 ?_
    refine lv_iload C0.1 C0.2.1 dX7_checksum_102 (lv_at hl 4 rfl) ?_
    obtain ⟨i4, h⟩ := h
    obtain ⟨e5, h⟩ := h
    refine r_iald C0 hO i4 e5 dX7_checksum_104 ?_
    refine lv_i2l C0.1 C0.2.1 dX7_checksum_105 rfl ?_
    refine lv_ladd C0.1 C0.2.1 dX7_checksum_106 ?_
    refine lv_lstore_n C0.1 C0.2.1 dX7_checksum_107 rfl hl (by decide) rfl (fun ls hl => ?_)
    refine lv_iinc (v := _ + 1) C0.1 C0.2.1 dX7_checksum_108 hl (k := 4) rfl rfl (by decide) rfl (fun ls hl => ?_)
    refine lv_goto (tgt := 85) C0.1 C0.2.1 dX7_checksum_111 (by decide) ?_
    exact hk85 _ _ _ _ _ _ _ _ h hO hS (lv_sub hl [2, 1, 3, 4, 0] rfl)
set_option maxHeartbeats 4000000 in
set_option maxRecDepth 100000 in
theorem lX7_checksum_b85 {p : Program} {l : Launch} {e : Env} {s : State} {m : MethodId} {args : Array Value} {below : List Frame} {meth : Method} {c : Code} {G : Gw} {x0 : Nat} {Φ : Hp → Int64 → Prop} (C0 : Mx p s m c cX7_checksum 6 args yX7_checksum.cls G) (Y : My meth (some .long)) {k58 : Hp → Int64 → Int32 → Prop} (hk58 : ∀ (S : Hp) (v1 : Int64) (v3 : Int32) (H : Heap) (locs : List Loc) (ls : Array Slot), k58 S v1 v3 → Ok G S H → va_S (Ab G.b) s.heap H locs → lv_has ls 6 [(0, .ref x0), (1, .long v1), (3, .int v3)] → W p l e rm_X7_checksum s m args below meth c H locs 0 0 (MQ below (gQ G (PJ Φ)) args s rm_X7_checksum.cells rm_X7_checksum.slots (Ab G.b)) (F0 m 58 ls [])) : ∀ n9 : Nat, ∀ (S : Hp) (v1 : Int64) (v3 : Int32) (v4 : Nat) (v5 : Int32) (H : Heap) (locs : List Loc) (ls : Array Slot), it5 (wX7_checksum_b85 x0 Φ k58) n9 S v1 v3 v4 v5 → Ok G S H → va_S (Ab G.b) s.heap H locs → lv_has ls 6 [(0, .ref x0), (1, .long v1), (3, .int v3), (4, .ref v4), (5, .int v5)] → W p l e rm_X7_checksum s m args below meth c H locs 0 0 (MQ below (gQ G (PJ Φ)) args s rm_X7_checksum.cells rm_X7_checksum.slots (Ab G.b)) (F0 m 85 ls []) := by
  intro n9
  induction n9 with
  | zero => intro S v1 v3 v4 v5 H locs ls h; exact (h : False).elim
  | succ n9 ih => intro S v1 v3 v4 v5 H locs ls h hO hS hl; exact bX7_checksum_b85 C0 Y hk58 ih S v1 v3 v4 v5 H locs ls h hO hS hl
def wX7_checksum_b58 (x0 : Nat) (Φ : Hp → Int64 → Prop) (k58 : Hp → Int64 → Int32 → Prop) (S : Hp) (v1 : Int64) (v3 : Int32) : Prop := isA S x0 7 ∧ ∃ a2, S.FR 451 x0 = some a2 ∧ isA S a2 9 ∧ wJx4a65c_size_8abf5 S a2 (fun S3 r4 => ((r4 ≤ v3 → Φ S3 v1) ∧ (¬ (r4 ≤ v3) → isA S3 x0 7 ∧ ∃ a8, S3.FR 451 x0 = some a8 ∧ isA S3 a8 9 ∧ wJx4a65c_get_915e3 S3 a8 v3 (fun S9 r10 => ∃ a12, r10 = some a12 ∧ isA S9 a12 2 ∧ ∃ n, it5 (wX7_checksum_b85 x0 Φ k58) n S9 v1 v3 a12 0))))
set_option maxHeartbeats 4000000 in
set_option maxRecDepth 100000 in
theorem bX7_checksum_b58 {p : Program} {l : Launch} {e : Env} {s : State} {m : MethodId} {args : Array Value} {below : List Frame} {meth : Method} {c : Code} {G : Gw} {x0 : Nat} {Φ : Hp → Int64 → Prop} (C0 : Mx p s m c cX7_checksum 6 args yX7_checksum.cls G) (Y : My meth (some .long)) {k58 : Hp → Int64 → Int32 → Prop} (hk58 : ∀ (S : Hp) (v1 : Int64) (v3 : Int32) (H : Heap) (locs : List Loc) (ls : Array Slot), k58 S v1 v3 → Ok G S H → va_S (Ab G.b) s.heap H locs → lv_has ls 6 [(0, .ref x0), (1, .long v1), (3, .int v3)] → W p l e rm_X7_checksum s m args below meth c H locs 0 0 (MQ below (gQ G (PJ Φ)) args s rm_X7_checksum.cells rm_X7_checksum.slots (Ab G.b)) (F0 m 58 ls [])) : ∀ (S : Hp) (v1 : Int64) (v3 : Int32) (H : Heap) (locs : List Loc) (ls : Array Slot), wX7_checksum_b58 x0 Φ k58 S v1 v3 → Ok G S H → va_S (Ab G.b) s.heap H locs → lv_has ls 6 [(0, .ref x0), (1, .long v1), (3, .int v3)] → W p l e rm_X7_checksum s m args below meth c H locs 0 0 (MQ below (gQ G (PJ Φ)) args s rm_X7_checksum.cells rm_X7_checksum.slots (Ab G.b)) (F0 m 58 ls []) := by
  intro S v1 v3 H locs ls h hO hS hl
  unfold wX7_checksum_b58 at h
  refine lv_iload_n C0.1 C0.2.1 dX7_checksum_58 rfl (lv_at hl 2 rfl) ?_
  refine lv_aload_n C0.1 C0.2.1 dX7_checksum_59 rfl (lv_at hl 0 rfl) ?_
  obtain ⟨i1, h⟩ := h
  obtain ⟨a2, ea2, h⟩ := h
  refine g7_3 C0 hO i1 ea2 tb_189 dX7_checksum_60 ?_
  obtain ⟨i5, h⟩ := h
  refine c_V C0 hO hS (mJx4a65c_size_8abf5 h) i5 (by decide) rfl rfl tb_261 tb_262 tb_263 tb_77 tb_264 hd_Jx4a65c_size_8abf5 rfl ⟨⟨by decide, by decide⟩, by decide, by decide⟩ hl.1 rfl (Nat.le_of_ble_eq_true rfl) dX7_checksum_63 (kI (fun r4 S3 H locs h hO hS => ?_))
  refine lv_icmp_ge (tgt := 120) C0.1 C0.2.1 dX7_checksum_66 (by decide) (fun c6 => ?_) (fun c6 => ?_)
  · have h := h.1 c6
    refine lv_lload_n C0.1 C0.2.1 dX7_checksum_120 rfl (lv_at hl 1 rfl) ?_
    exact e_J C0 Y hO hS h (Nat.le_refl _) (Nat.le_refl _) dX7_checksum_121
  · have h := h.2 c6
    refine lv_aload_n C0.1 C0.2.1 dX7_checksum_69 rfl (lv_at hl 0 rfl) ?_
    obtain ⟨i7, h⟩ := h
    obtain ⟨a8, ea8, h⟩ := h
    refine g7_3 C0 hO i7 ea8 tb_189 dX7_checksum_70 ?_
    refine lv_iload_n C0.1 C0.2.1 dX7_checksum_73 rfl (lv_at hl 2 rfl) ?_
    obtain ⟨i11, h⟩ := h
    refine c_V C0 hO hS (mJx4a65c_get_915e3 h) i11 (by decide) rfl rfl tb_265 tb_266 tb_267 tb_77 tb_268 hd_Jx4a65c_get_915e3 rfl ⟨⟨by decide, by decide⟩, by decide, by decide⟩ hl.1 rfl (Nat.le_of_ble_eq_true rfl) dX7_checksum_74 (kR (fun r10 S9 H locs h hO hS => ?_))
    obtain ⟨a12, ea12, h⟩ := h
    subst ea12
    change W _ _ _ _ _ _ _ _ _ _ _ _ _ _ _ (F0 _ _ _ (.ref a12 :: _))
    obtain ⟨i13, h⟩ := h
    refine r_castO C0 hO i13 (by decide) rfl tb_279 dX7_checksum_77 ?_
    refine lv_astore C0.1 C0.2.1 dX7_checksum_80 hl (by decide) rfl (fun ls hl => ?_)
    refine lv_iconst (v := 0) C0.1 C0.2.1 dX7_checksum_82 (by decide) ?_
    refine lv_istore C0.1 C0.2.1 dX7_checksum_83 hl (by decide) rfl (fun ls hl => ?_)
    obtain ⟨n9, h⟩ := h
    exact lX7_checksum_b85 C0 Y hk58 n9 _ _ _ _ _ _ _ _ h hO hS (lv_sub hl [2, 3, 4, 1, 0] rfl)
set_option maxHeartbeats 4000000 in
set_option maxRecDepth 100000 in
theorem lX7_checksum_b58 {p : Program} {l : Launch} {e : Env} {s : State} {m : MethodId} {args : Array Value} {below : List Frame} {meth : Method} {c : Code} {G : Gw} {x0 : Nat} {Φ : Hp → Int64 → Prop} (C0 : Mx p s m c cX7_checksum 6 args yX7_checksum.cls G) (Y : My meth (some .long))  : ∀ n9 : Nat, ∀ (S : Hp) (v1 : Int64) (v3 : Int32) (H : Heap) (locs : List Loc) (ls : Array Slot), it3 (wX7_checksum_b58 x0 Φ) n9 S v1 v3 → Ok G S H → va_S (Ab G.b) s.heap H locs → lv_has ls 6 [(0, .ref x0), (1, .long v1), (3, .int v3)] → W p l e rm_X7_checksum s m args below meth c H locs 0 0 (MQ below (gQ G (PJ Φ)) args s rm_X7_checksum.cells rm_X7_checksum.slots (Ab G.b)) (F0 m 58 ls []) := by
  intro n9
  induction n9 with
  | zero => intro S v1 v3 H locs ls h; exact (h : False).elim
  | succ n9 ih => intro S v1 v3 H locs ls h hO hS hl; exact bX7_checksum_b58 C0 Y ih S v1 v3 H locs ls h hO hS hl
def wX7_checksum_b6 (x0 : Nat) (Φ : Hp → Int64 → Prop) (k6 : Hp → Int64 → Int32 → Prop) (S : Hp) (v1 : Int64) (v3 : Int32) : Prop := isA S x0 7 ∧ (((S.FI 461 x0) ≤ v3 → ∃ n, it3 (wX7_checksum_b58 x0 Φ) n S v1 0) ∧ (¬ ((S.FI 461 x0) ≤ v3) → ∃ a3, S.FR 458 x0 = some a3 ∧ isA S a3 6 ∧ ∃ a5, S.FR 384 a3 = some a5 ∧ isA S a5 4 ∧ wX4_overAt S a5 v3 (fun S6 r7 => isA S6 x0 7 ∧ ∃ a10, S6.FR 458 x0 = some a10 ∧ isA S6 a10 6 ∧ ∃ a12, S6.FR 384 a10 = some a12 ∧ isA S6 a12 4 ∧ wX4_underAt S6 a12 v3 (fun S13 r14 => k6 S13 ((31 * ((31 * v1) + r7)) + r14) (v3 + 1)))))
set_option maxHeartbeats 4000000 in
set_option maxRecDepth 100000 in
theorem bX7_checksum_b6 {p : Program} {l : Launch} {e : Env} {s : State} {m : MethodId} {args : Array Value} {below : List Frame} {meth : Method} {c : Code} {G : Gw} {x0 : Nat} {Φ : Hp → Int64 → Prop} (C0 : Mx p s m c cX7_checksum 6 args yX7_checksum.cls G) (Y : My meth (some .long)) {k6 : Hp → Int64 → Int32 → Prop} (hk6 : ∀ (S : Hp) (v1 : Int64) (v3 : Int32) (H : Heap) (locs : List Loc) (ls : Array Slot), k6 S v1 v3 → Ok G S H → va_S (Ab G.b) s.heap H locs → lv_has ls 6 [(0, .ref x0), (1, .long v1), (3, .int v3)] → W p l e rm_X7_checksum s m args below meth c H locs 0 0 (MQ below (gQ G (PJ Φ)) args s rm_X7_checksum.cells rm_X7_checksum.slots (Ab G.b)) (F0 m 6 ls [])) : ∀ (S : Hp) (v1 : Int64) (v3 : Int32) (H : Heap) (locs : List Loc) (ls : Array Slot), wX7_checksum_b6 x0 Φ k6 S v1 v3 → Ok G S H → va_S (Ab G.b) s.heap H locs → lv_has ls 6 [(0, .ref x0), (1, .long v1), (3, .int v3)] → W p l e rm_X7_checksum s m args below meth c H locs 0 0 (MQ below (gQ G (PJ Φ)) args s rm_X7_checksum.cells rm_X7_checksum.slots (Ab G.b)) (F0 m 6 ls []) := by
  intro S v1 v3 H locs ls h hO hS hl
  unfold wX7_checksum_b6 at h
  refine lv_iload_n C0.1 C0.2.1 dX7_checksum_6 rfl (lv_at hl 2 rfl) ?_
  refine lv_aload_n C0.1 C0.2.1 dX7_checksum_7 rfl (lv_at hl 0 rfl) ?_
  obtain ⟨i1, h⟩ := h
  refine g7_13 C0 hO i1 tb_199 dX7_checksum_8 ?_
  refine lv_icmp_ge (tgt := 56) C0.1 C0.2.1 dX7_checksum_11 (by decide) (fun c2 => ?_) (fun c2 => ?_)
  · have h := h.1 c2
    refine lv_iconst (v := 0) C0.1 C0.2.1 dX7_checksum_56 (by decide) ?_
    refine lv_istore_n C0.1 C0.2.1 dX7_checksum_57 rfl hl (by decide) rfl (fun ls hl => ?_)
    obtain ⟨n9, h⟩ := h
    exact lX7_checksum_b58 C0 Y n9 _ _ _ _ _ _ h hO hS (lv_sub hl [1, 2, 0] rfl)
  · have h := h.2 c2
    refine lv_ldc2 (v := 31) C0.1 C0.2.1 C0.2.2.2.1 (C0.2.2.2.2.1 _ tb_248) dX7_checksum_14 ?_
    refine lv_lload_n C0.1 C0.2.1 dX7_checksum_17 rfl (lv_at hl 1 rfl) ?_
    refine lv_lmul C0.1 C0.2.1 dX7_checksum_18 ?_
    refine lv_aload_n C0.1 C0.2.1 dX7_checksum_19 rfl (lv_at hl 0 rfl) ?_
    obtain ⟨a3, ea3, h⟩ := h
    refine g7_10 C0 hO i1 ea3 tb_196 dX7_checksum_20 ?_
    obtain ⟨i4, h⟩ := h
    obtain ⟨a5, ea5, h⟩ := h
    refine g6_0 C0 hO i4 ea5 tb_165 dX7_checksum_23 ?_
    refine lv_iload_n C0.1 C0.2.1 dX7_checksum_26 rfl (lv_at hl 2 rfl) ?_
    obtain ⟨i8, h⟩ := h
    refine c_V C0 hO hS (mX4_overAt h) i8 (by decide) rfl rfl tb_249 tb_250 tb_251 tb_78 tb_252 hd_X4_overAt rfl ⟨⟨by decide, by decide⟩, by decide, by decide⟩ hl.1 rfl (Nat.le_of_ble_eq_true rfl) dX7_checksum_27 (kJ (fun r7 S6 H locs h hO hS => ?_))
    refine lv_ladd C0.1 C0.2.1 dX7_checksum_30 ?_
    refine lv_lstore_n C0.1 C0.2.1 dX7_checksum_31 rfl hl (by decide) rfl (fun ls hl => ?_)
    refine lv_ldc2 (v := 31) C0.1 C0.2.1 C0.2.2.2.1 (C0.2.2.2.2.1 _ tb_248) dX7_checksum_32 ?_
    refine lv_lload_n C0.1 C0.2.1 dX7_checksum_35 rfl (lv_at hl 0 rfl) ?_
    refine lv_lmul C0.1 C0.2.1 dX7_checksum_36 ?_
    refine lv_aload_n C0.1 C0.2.1 dX7_checksum_37 rfl (lv_at hl 1 rfl) ?_
    obtain ⟨i9, h⟩ := h
    obtain ⟨a10, ea10, h⟩ := h
    refine g7_10 C0 hO i9 ea10 tb_196 dX7_checksum_38 ?_
    obtain ⟨i11, h⟩ := h
    obtain ⟨a12, ea12, h⟩ := h
    refine g6_0 C0 hO i11 ea12 tb_165 dX7_checksum_41 ?_
    refine lv_iload_n C0.1 C0.2.1 dX7_checksum_44 rfl (lv_at hl 2 rfl) ?_
    obtain ⟨i15, h⟩ := h
    refine c_V C0 hO hS (mX4_underAt h) i15 (by decide) rfl rfl tb_257 tb_258 tb_259 tb_78 tb_260 hd_X4_underAt rfl ⟨⟨by decide, by decide⟩, by decide, by decide⟩ hl.1 rfl (Nat.le_of_ble_eq_true rfl) dX7_checksum_45 (kJ (fun r14 S13 H locs h hO hS => ?_))
    refine lv_ladd C0.1 C0.2.1 dX7_checksum_48 ?_
    refine lv_lstore_n C0.1 C0.2.1 dX7_checksum_49 rfl hl (by decide) rfl (fun ls hl => ?_)
    refine lv_iinc (v := _ + 1) C0.1 C0.2.1 dX7_checksum_50 hl (k := 2) rfl rfl (by decide) rfl (fun ls hl => ?_)
    refine lv_goto (tgt := 6) C0.1 C0.2.1 dX7_checksum_53 (by decide) ?_
    exact hk6 _ _ _ _ _ _ h hO hS (lv_sub hl [2, 1, 0] rfl)
set_option maxHeartbeats 4000000 in
set_option maxRecDepth 100000 in
theorem lX7_checksum_b6 {p : Program} {l : Launch} {e : Env} {s : State} {m : MethodId} {args : Array Value} {below : List Frame} {meth : Method} {c : Code} {G : Gw} {x0 : Nat} {Φ : Hp → Int64 → Prop} (C0 : Mx p s m c cX7_checksum 6 args yX7_checksum.cls G) (Y : My meth (some .long))  : ∀ n9 : Nat, ∀ (S : Hp) (v1 : Int64) (v3 : Int32) (H : Heap) (locs : List Loc) (ls : Array Slot), it3 (wX7_checksum_b6 x0 Φ) n9 S v1 v3 → Ok G S H → va_S (Ab G.b) s.heap H locs → lv_has ls 6 [(0, .ref x0), (1, .long v1), (3, .int v3)] → W p l e rm_X7_checksum s m args below meth c H locs 0 0 (MQ below (gQ G (PJ Φ)) args s rm_X7_checksum.cells rm_X7_checksum.slots (Ab G.b)) (F0 m 6 ls []) := by
  intro n9
  induction n9 with
  | zero => intro S v1 v3 H locs ls h; exact (h : False).elim
  | succ n9 ih => intro S v1 v3 H locs ls h hO hS hl; exact bX7_checksum_b6 C0 Y ih S v1 v3 H locs ls h hO hS hl
def wX7_checksum_b0 (x0 : Nat) (Φ : Hp → Int64 → Prop) (S : Hp) : Prop := ∃ n, it3 (wX7_checksum_b6 x0 Φ) n S 7 0
set_option maxHeartbeats 4000000 in
set_option maxRecDepth 100000 in
theorem bX7_checksum_b0 {p : Program} {l : Launch} {e : Env} {s : State} {m : MethodId} {args : Array Value} {below : List Frame} {meth : Method} {c : Code} {G : Gw} {x0 : Nat} {Φ : Hp → Int64 → Prop} (C0 : Mx p s m c cX7_checksum 6 args yX7_checksum.cls G) (Y : My meth (some .long))  : ∀ (S : Hp) (H : Heap) (locs : List Loc) (ls : Array Slot), wX7_checksum_b0 x0 Φ S → Ok G S H → va_S (Ab G.b) s.heap H locs → lv_has ls 6 [(0, .ref x0)] → W p l e rm_X7_checksum s m args below meth c H locs 0 0 (MQ below (gQ G (PJ Φ)) args s rm_X7_checksum.cells rm_X7_checksum.slots (Ab G.b)) (F0 m 0 ls []) := by
  intro S H locs ls h hO hS hl
  unfold wX7_checksum_b0 at h
  refine lv_ldc2 (v := 7) C0.1 C0.2.1 C0.2.2.2.1 (C0.2.2.2.2.1 _ tb_247) dX7_checksum_0 ?_
  refine lv_lstore_n C0.1 C0.2.1 dX7_checksum_3 rfl hl (by decide) rfl (fun ls hl => ?_)
  refine lv_iconst (v := 0) C0.1 C0.2.1 dX7_checksum_4 (by decide) ?_
  refine lv_istore_n C0.1 C0.2.1 dX7_checksum_5 rfl hl (by decide) rfl (fun ls hl => ?_)
  obtain ⟨n9, h⟩ := h
  exact lX7_checksum_b6 C0 Y n9 _ _ _ _ _ _ h hO hS (lv_sub hl [2, 1, 0] rfl)
def wX7_checksum (S : Hp) (x0 : Nat) (Φ : Hp → Int64 → Prop) : Prop := wX7_checksum_b0 x0 Φ S
set_option maxRecDepth 100000 in
theorem mX7_checksum {l : Launch} {G : Gw} {S : Hp} {x0 : Nat} {Φ : Hp → Int64 → Prop} (h : wX7_checksum S x0 Φ) : gM l yX7_checksum cX7_checksum 6 (some .long) rm_X7_checksum [.ref x0] G S (PJ Φ) := by
  unfold gM
  refine Met.ofW (cc := cX7_checksum) (maxL := 6) (ret := (some .long)) (by decide) rfl ?_
  intro p e s m args below meth c s₁ B hml hv
  obtain ⟨rfl, hw⟩ := hv
  obtain ⟨C0, Y, hO⟩ := mx_of B hml hw
  have hS : va_S (Ab G.b) s.heap s.heap [] := va_S.rf
  have hl := lv_entry ([.ref x0]) (n := 6) (Nat.le_of_ble_eq_true rfl)
  rw [lg_entry_eq]
  generalize (lg_sl ([.ref x0]) ++ List.replicate (6 - (lg_sl ([.ref x0])).length) Slot.unset).toArray = ls at hl ⊢
  have hl : lv_has ls 6 [(0, .ref x0)] := hl
  exact bX7_checksum_b0 C0 Y S _ _ _ h hO hS hl

def rm_X7_drivenShare : Room := { frames := 6, cells := 1, slots := 6, locals := 90 }
def wX7_drivenShare_b0 (x0 : Nat) (Φ : Hp → UInt32 → Prop) (Ψ : Hp → String → Prop) (S : Hp) : Prop := isA S x0 7 ∧ ((¬ (S.FI 461 x0) = 0 → wX7_countDriven S x0 (fun S3 r4 => isA S3 x0 7 ∧ vf_n32 (FP.fdiv (FP.i2f r4) (FP.i2f (S3.FI 461 x0))) ∧ Φ S3 (FP.fdiv (FP.i2f r4) (FP.i2f (S3.FI 461 x0))))) ∧ ((S.FI 461 x0) = 0 → Ψ S "java/lang/ArithmeticException"))
set_option maxHeartbeats 4000000 in
set_option maxRecDepth 100000 in
theorem bX7_drivenShare_b0 {p : Program} {l : Launch} {e : Env} {s : State} {m : MethodId} {args : Array Value} {below : List Frame} {meth : Method} {c : Code} {G : Gw} {x0 : Nat} {Φ : Hp → UInt32 → Prop} {Ψ : Hp → String → Prop} (C0 : Mx p s m c cX7_drivenShare 1 args yX7_drivenShare.cls G) (Y : My meth (some .float)) (hl9 : l.stackTraces = false) (hx9 : ∀ x ∈ c.exceptionTable.toList, False)  : ∀ (S : Hp) (H : Heap) (locs : List Loc) (ls : Array Slot) (cells slots : Nat), wX7_drivenShare_b0 x0 Φ Ψ S → Ok G S H → va_S (Ab G.b) s.heap H locs → lv_has ls 1 [(0, .ref x0)] → cells + (1) ≤ 1 → slots + (6) ≤ 6 → W p l e rm_X7_drivenShare s m args below meth c H locs cells slots (vx_MQ below (gQ G (PF Φ)) (gX G Ψ) args s rm_X7_drivenShare.cells rm_X7_drivenShare.slots (Ab G.b)) (F0 m 0 ls []) := by
  intro S H locs ls cells slots h hO hS hl hcc hss
  unfold wX7_drivenShare_b0 at h
  refine lv_aload_n C0.1 C0.2.1 dX7_drivenShare_0 rfl (lv_at hl 0 rfl) ?_
  obtain ⟨i1, h⟩ := h
  refine g7_13 C0 hO i1 tb_199 dX7_drivenShare_1 ?_
  refine lv_if_ne (tgt := 18) C0.1 C0.2.1 dX7_drivenShare_4 (by decide) (fun c2 => ?_) (fun c2 => ?_)
  · have h := h.1 c2
    refine lv_aload_n C0.1 C0.2.1 dX7_drivenShare_18 rfl (lv_at hl 0 rfl) ?_
    refine c_V C0 hO hS (mX7_countDriven h) i1 (by decide) rfl rfl tb_239 tb_241 tb_0 tb_74 tb_242 hd_X7_countDriven rfl ⟨⟨by decide, by decide⟩, by show _ + 0 ≤ 1; omega, by show _ + 0 ≤ 6; omega⟩ hl.1 rfl (Nat.le_of_ble_eq_true rfl) dX7_drivenShare_19 (kI (fun r4 S3 H locs h hO hS => ?_))
    change W _ _ _ _ _ _ _ _ _ _ _ _ (_ + 0) (_ + 0) _ _
    refine lv_i2f C0.1 C0.2.1 dX7_drivenShare_22 ?_
    refine lv_aload_n C0.1 C0.2.1 dX7_drivenShare_23 rfl (lv_at hl 0 rfl) ?_
    obtain ⟨i5, h⟩ := h
    refine g7_13 C0 hO i5 tb_199 dX7_drivenShare_24 ?_
    refine lv_i2f C0.1 C0.2.1 dX7_drivenShare_27 ?_
    obtain ⟨e6, h⟩ := h
    refine lv_fdiv C0.1 C0.2.1 dX7_drivenShare_28 e6 ?_
    refine vx_ret ?_
    exact e_F C0 Y hO hS h (by show _ ≤ 1; omega) (by show _ ≤ 6; omega) dX7_drivenShare_29
  · have h := h.2 c2
    exact t_W (text := "there are no shafts") (names := xnm) C0 hl9 Y.2 hx9 hO hS xf_ArithmeticException xnm_ok tb_1300 tb_102 (by decide +kernel) xat_345 xgd_34500341 hl.1 h dX7_drivenShare_7 dX7_drivenShare_10 dX7_drivenShare_11 dX7_drivenShare_14 dX7_drivenShare_17 (Nat.le_of_ble_eq_true rfl) (Nat.le_of_ble_eq_true rfl) (by show _ ≤ 1; omega) (by show _ ≤ 6; omega) (by show _ ≤ 1; omega) (by show _ ≤ 6; omega)
def wX7_drivenShare (S : Hp) (x0 : Nat) (Φ : Hp → UInt32 → Prop) (Ψ : Hp → String → Prop) : Prop := wX7_drivenShare_b0 x0 Φ Ψ S
set_option maxRecDepth 100000 in
theorem mX7_drivenShare {l : Launch} {G : Gw} (hl9 : l.stackTraces = false) {S : Hp} {x0 : Nat} {Φ : Hp → UInt32 → Prop} {Ψ : Hp → String → Prop} (h : wX7_drivenShare S x0 Φ Ψ) : gT l yX7_drivenShare cX7_drivenShare 1 (some .float) rm_X7_drivenShare [.ref x0] G S (PF Φ) Ψ := by
  unfold gT
  refine vx_ofW (cc := cX7_drivenShare) (maxL := 1) (ret := (some .float)) (by decide) rfl ?_
  intro p e s m args below meth c s₁ B hml hx9 hv
  obtain ⟨rfl, hw⟩ := hv
  obtain ⟨C0, Y, hO⟩ := mx_of B hml hw
  have hS : va_S (Ab G.b) s.heap s.heap [] := va_S.rf
  have hl := lv_entry ([.ref x0]) (n := 1) (Nat.le_of_ble_eq_true rfl)
  rw [lg_entry_eq]
  generalize (lg_sl ([.ref x0]) ++ List.replicate (1 - (lg_sl ([.ref x0])).length) Slot.unset).toArray = ls at hl ⊢
  have hl : lv_has ls 1 [(0, .ref x0)] := hl
  exact bX7_drivenShare_b0 C0 Y hl9 hx9 S _ _ _ 0 0 h hO hS hl (by decide) (by decide)

def rm_X7_meanWorn : Room := { frames := 6, cells := 1, slots := 6, locals := 90 }
def wX7_meanWorn_b25 (x0 : Nat) (Φ : Hp → UInt64 → Prop) (Ψ : Hp → String → Prop) (k25 : Hp → UInt64 → Int32 → Prop) (S : Hp) (v1 : UInt64) (v3 : Int32) : Prop := isA S x0 7 ∧ ∃ a2, S.FR 448 x0 = some a2 ∧ isA S a2 9 ∧ wJx4a65c_size_8abf5 S a2 (fun S3 r4 => ((r4 ≤ v3 → isA S3 x0 7 ∧ ∃ a8, S3.FR 448 x0 = some a8 ∧ isA S3 a8 9 ∧ wJx4a65c_size_8abf5 S3 a8 (fun S9 r10 => vf_n64 (FP.ddiv v1 (FP.i2d r10)) ∧ Φ S9 (FP.ddiv v1 (FP.i2d r10)))) ∧ (¬ (r4 ≤ v3) → isA S3 x0 7 ∧ ∃ a14, S3.FR 457 x0 = some a14 ∧ isA S3 a14 4 ∧ wX4_overAt S3 a14 v3 (fun S15 r16 => isA S15 x0 7 ∧ ∃ a19, S15.FR 457 x0 = some a19 ∧ isA S15 a19 4 ∧ wX4_underAt S15 a19 v3 (fun S20 r21 => vf_n64 (FP.ddiv (FP.l2d r16) (FP.l2d r21)) ∧ vf_n64 (FP.dadd v1 (FP.ddiv (FP.l2d r16) (FP.l2d r21))) ∧ k25 S20 (FP.dadd v1 (FP.ddiv (FP.l2d r16) (FP.l2d r21))) (v3 + 1))))))
set_option maxHeartbeats 4000000 in
set_option maxRecDepth 100000 in
theorem bX7_meanWorn_b25 {p : Program} {l : Launch} {e : Env} {s : State} {m : MethodId} {args : Array Value} {below : List Frame} {meth : Method} {c : Code} {G : Gw} {x0 : Nat} {Φ : Hp → UInt64 → Prop} {Ψ : Hp → String → Prop} (C0 : Mx p s m c cX7_meanWorn 4 args yX7_meanWorn.cls G) (Y : My meth (some .double)) (hl9 : l.stackTraces = false) (hx9 : ∀ x ∈ c.exceptionTable.toList, False) {k25 : Hp → UInt64 → Int32 → Prop} (hk25 : ∀ (S : Hp) (v1 : UInt64) (v3 : Int32) (H : Heap) (locs : List Loc) (ls : Array Slot) (cells slots : Nat), k25 S v1 v3 → Ok G S H → va_S (Ab G.b) s.heap H locs → lv_has ls 4 [(0, .ref x0), (1, .double v1), (3, .int v3)] → cells + (0) ≤ 1 → slots + (0) ≤ 6 → W p l e rm_X7_meanWorn s m args below meth c H locs cells slots (vx_MQ below (gQ G (PD Φ)) (gX G Ψ) args s rm_X7_meanWorn.cells rm_X7_meanWorn.slots (Ab G.b)) (F0 m 25 ls [])) : ∀ (S : Hp) (v1 : UInt64) (v3 : Int32) (H : Heap) (locs : List Loc) (ls : Array Slot) (cells slots : Nat), wX7_meanWorn_b25 x0 Φ Ψ k25 S v1 v3 → Ok G S H → va_S (Ab G.b) s.heap H locs → lv_has ls 4 [(0, .ref x0), (1, .double v1), (3, .int v3)] → cells + (0) ≤ 1 → slots + (0) ≤ 6 → W p l e rm_X7_meanWorn s m args below meth c H locs cells slots (vx_MQ below (gQ G (PD Φ)) (gX G Ψ) args s rm_X7_meanWorn.cells rm_X7_meanWorn.slots (Ab G.b)) (F0 m 25 ls []) := by
  intro S v1 v3 H locs ls cells slots h hO hS hl hcc hss
  unfold wX7_meanWorn_b25 at h
  refine lv_iload_n C0.1 C0.2.1 dX7_meanWorn_25 rfl (lv_at hl 2 rfl) ?_
  refine lv_aload_n C0.1 C0.2.1 dX7_meanWorn_26 rfl (lv_at hl 0 rfl) ?_
  obtain ⟨i1, h⟩ := h
  obtain ⟨a2, ea2, h⟩ := h
  refine g7_0 C0 hO i1 ea2 tb_186 dX7_meanWorn_27 ?_
  obtain ⟨i5, h⟩ := h
  refine c_V C0 hO hS (mJx4a65c_size_8abf5 h) i5 (by decide) rfl rfl tb_261 tb_262 tb_263 tb_77 tb_264 hd_Jx4a65c_size_8abf5 rfl ⟨⟨by decide, by decide⟩, by show _ + 0 ≤ 1; omega, by show _ + 0 ≤ 6; omega⟩ hl.1 rfl (Nat.le_of_ble_eq_true rfl) dX7_meanWorn_30 (kI (fun r4 S3 H locs h hO hS => ?_))
  change W _ _ _ _ _ _ _ _ _ _ _ _ (_ + 0) (_ + 0) _ _
  refine lv_icmp_ge (tgt := 64) C0.1 C0.2.1 dX7_meanWorn_33 (by decide) (fun c6 => ?_) (fun c6 => ?_)
  · have h := h.1 c6
    refine lv_dload_n C0.1 C0.2.1 dX7_meanWorn_64 rfl (lv_at hl 1 rfl) ?_
    refine lv_aload_n C0.1 C0.2.1 dX7_meanWorn_65 rfl (lv_at hl 0 rfl) ?_
    obtain ⟨i7, h⟩ := h
    obtain ⟨a8, ea8, h⟩ := h
    refine g7_0 C0 hO i7 ea8 tb_186 dX7_meanWorn_66 ?_
    obtain ⟨i11, h⟩ := h
    refine c_V C0 hO hS (mJx4a65c_size_8abf5 h) i11 (by decide) rfl rfl tb_261 tb_262 tb_263 tb_77 tb_264 hd_Jx4a65c_size_8abf5 rfl ⟨⟨by decide, by decide⟩, by show _ + 0 ≤ 1; omega, by show _ + 0 ≤ 6; omega⟩ hl.1 rfl (Nat.le_of_ble_eq_true rfl) dX7_meanWorn_69 (kI (fun r10 S9 H locs h hO hS => ?_))
    change W _ _ _ _ _ _ _ _ _ _ _ _ (_ + 0) (_ + 0) _ _
    refine lv_i2d C0.1 C0.2.1 dX7_meanWorn_72 ?_
    obtain ⟨e12, h⟩ := h
    refine lv_ddiv C0.1 C0.2.1 dX7_meanWorn_73 e12 ?_
    refine vx_ret ?_
    exact e_D C0 Y hO hS h (by show _ ≤ 1; omega) (by show _ ≤ 6; omega) dX7_meanWorn_74
  · have h := h.2 c6
    refine lv_dload_n C0.1 C0.2.1 dX7_meanWorn_36 rfl (lv_at hl 1 rfl) ?_
    refine lv_aload_n C0.1 C0.2.1 dX7_meanWorn_37 rfl (lv_at hl 0 rfl) ?_
    obtain ⟨i13, h⟩ := h
    obtain ⟨a14, ea14, h⟩ := h
    refine g7_9 C0 hO i13 ea14 tb_195 dX7_meanWorn_38 ?_
    refine lv_iload_n C0.1 C0.2.1 dX7_meanWorn_41 rfl (lv_at hl 2 rfl) ?_
    obtain ⟨i17, h⟩ := h
    refine c_V C0 hO hS (mX4_overAt h) i17 (by decide) rfl rfl tb_249 tb_250 tb_251 tb_78 tb_252 hd_X4_overAt rfl ⟨⟨by decide, by decide⟩, by show _ + 0 ≤ 1; omega, by show _ + 0 ≤ 6; omega⟩ hl.1 rfl (Nat.le_of_ble_eq_true rfl) dX7_meanWorn_42 (kJ (fun r16 S15 H locs h hO hS => ?_))
    change W _ _ _ _ _ _ _ _ _ _ _ _ (_ + 0) (_ + 0) _ _
    refine lv_l2d C0.1 C0.2.1 dX7_meanWorn_45 ?_
    refine lv_aload_n C0.1 C0.2.1 dX7_meanWorn_46 rfl (lv_at hl 0 rfl) ?_
    obtain ⟨i18, h⟩ := h
    obtain ⟨a19, ea19, h⟩ := h
    refine g7_9 C0 hO i18 ea19 tb_195 dX7_meanWorn_47 ?_
    refine lv_iload_n C0.1 C0.2.1 dX7_meanWorn_50 rfl (lv_at hl 2 rfl) ?_
    obtain ⟨i22, h⟩ := h
    refine c_V C0 hO hS (mX4_underAt h) i22 (by decide) rfl rfl tb_257 tb_258 tb_259 tb_78 tb_260 hd_X4_underAt rfl ⟨⟨by decide, by decide⟩, by show _ + 0 ≤ 1; omega, by show _ + 0 ≤ 6; omega⟩ hl.1 rfl (Nat.le_of_ble_eq_true rfl) dX7_meanWorn_51 (kJ (fun r21 S20 H locs h hO hS => ?_))
    change W _ _ _ _ _ _ _ _ _ _ _ _ (_ + 0) (_ + 0) _ _
    refine lv_l2d C0.1 C0.2.1 dX7_meanWorn_54 ?_
    obtain ⟨e23, h⟩ := h
    refine lv_ddiv C0.1 C0.2.1 dX7_meanWorn_55 e23 ?_
    obtain ⟨e24, h⟩ := h
    refine lv_dadd C0.1 C0.2.1 dX7_meanWorn_56 e24 ?_
    refine lv_dstore_n C0.1 C0.2.1 dX7_meanWorn_57 rfl hl (by decide) rfl (fun ls hl => ?_)
    refine lv_iinc (v := _ + 1) C0.1 C0.2.1 dX7_meanWorn_58 hl (k := 2) rfl rfl (by decide) rfl (fun ls hl => ?_)
    refine lv_goto (tgt := 25) C0.1 C0.2.1 dX7_meanWorn_61 (by decide) ?_
    exact hk25 _ _ _ _ _ _ _ _ h hO hS (lv_sub hl [2, 1, 0] rfl) (by omega) (by omega)
set_option maxHeartbeats 4000000 in
set_option maxRecDepth 100000 in
theorem lX7_meanWorn_b25 {p : Program} {l : Launch} {e : Env} {s : State} {m : MethodId} {args : Array Value} {below : List Frame} {meth : Method} {c : Code} {G : Gw} {x0 : Nat} {Φ : Hp → UInt64 → Prop} {Ψ : Hp → String → Prop} (C0 : Mx p s m c cX7_meanWorn 4 args yX7_meanWorn.cls G) (Y : My meth (some .double)) (hl9 : l.stackTraces = false) (hx9 : ∀ x ∈ c.exceptionTable.toList, False)  : ∀ n9 : Nat, ∀ (S : Hp) (v1 : UInt64) (v3 : Int32) (H : Heap) (locs : List Loc) (ls : Array Slot) (cells slots : Nat), it3 (wX7_meanWorn_b25 x0 Φ Ψ) n9 S v1 v3 → Ok G S H → va_S (Ab G.b) s.heap H locs → lv_has ls 4 [(0, .ref x0), (1, .double v1), (3, .int v3)] → cells + (0) ≤ 1 → slots + (0) ≤ 6 → W p l e rm_X7_meanWorn s m args below meth c H locs cells slots (vx_MQ below (gQ G (PD Φ)) (gX G Ψ) args s rm_X7_meanWorn.cells rm_X7_meanWorn.slots (Ab G.b)) (F0 m 25 ls []) := by
  intro n9
  induction n9 with
  | zero => intro S v1 v3 H locs ls cells slots h; exact (h : False).elim
  | succ n9 ih => intro S v1 v3 H locs ls cells slots h hO hS hl hcc hss; exact bX7_meanWorn_b25 C0 Y hl9 hx9 ih S v1 v3 H locs ls cells slots h hO hS hl (by omega) (by omega)
def wX7_meanWorn_b0 (x0 : Nat) (Φ : Hp → UInt64 → Prop) (Ψ : Hp → String → Prop) (S : Hp) : Prop := isA S x0 7 ∧ ∃ a2, S.FR 448 x0 = some a2 ∧ isA S a2 9 ∧ wJx4a65c_isEmpty_aae02 S a2 (fun S3 r4 => ((r4 = 0 → ∃ n, it3 (wX7_meanWorn_b25 x0 Φ Ψ) n S3 FP.dconst0 0) ∧ (¬ (r4 = 0) → Ψ S3 "java/lang/ArithmeticException")))
set_option maxHeartbeats 4000000 in
set_option maxRecDepth 100000 in
theorem bX7_meanWorn_b0 {p : Program} {l : Launch} {e : Env} {s : State} {m : MethodId} {args : Array Value} {below : List Frame} {meth : Method} {c : Code} {G : Gw} {x0 : Nat} {Φ : Hp → UInt64 → Prop} {Ψ : Hp → String → Prop} (C0 : Mx p s m c cX7_meanWorn 4 args yX7_meanWorn.cls G) (Y : My meth (some .double)) (hl9 : l.stackTraces = false) (hx9 : ∀ x ∈ c.exceptionTable.toList, False)  : ∀ (S : Hp) (H : Heap) (locs : List Loc) (ls : Array Slot) (cells slots : Nat), wX7_meanWorn_b0 x0 Φ Ψ S → Ok G S H → va_S (Ab G.b) s.heap H locs → lv_has ls 4 [(0, .ref x0)] → cells + (1) ≤ 1 → slots + (6) ≤ 6 → W p l e rm_X7_meanWorn s m args below meth c H locs cells slots (vx_MQ below (gQ G (PD Φ)) (gX G Ψ) args s rm_X7_meanWorn.cells rm_X7_meanWorn.slots (Ab G.b)) (F0 m 0 ls []) := by
  intro S H locs ls cells slots h hO hS hl hcc hss
  unfold wX7_meanWorn_b0 at h
  refine lv_aload_n C0.1 C0.2.1 dX7_meanWorn_0 rfl (lv_at hl 0 rfl) ?_
  obtain ⟨i1, h⟩ := h
  obtain ⟨a2, ea2, h⟩ := h
  refine g7_0 C0 hO i1 ea2 tb_186 dX7_meanWorn_1 ?_
  obtain ⟨i5, h⟩ := h
  refine c_V C0 hO hS (mJx4a65c_isEmpty_aae02 h) i5 (by decide) rfl rfl tb_1310 tb_1311 tb_1312 tb_77 tb_1313 hd_Jx4a65c_isEmpty_aae02 rfl ⟨⟨by decide, by decide⟩, by show _ + 0 ≤ 1; omega, by show _ + 0 ≤ 6; omega⟩ hl.1 rfl (Nat.le_of_ble_eq_true rfl) dX7_meanWorn_4 (kI (fun r4 S3 H locs h hO hS => ?_))
  change W _ _ _ _ _ _ _ _ _ _ _ _ (_ + 0) (_ + 0) _ _
  refine lv_if_eq (tgt := 21) C0.1 C0.2.1 dX7_meanWorn_7 (by decide) (fun c6 => ?_) (fun c6 => ?_)
  · have h := h.1 c6
    refine lv_dconst0 C0.1 C0.2.1 dX7_meanWorn_21 ?_
    refine lv_dstore_n C0.1 C0.2.1 dX7_meanWorn_22 rfl hl (by decide) rfl (fun ls hl => ?_)
    refine lv_iconst (v := 0) C0.1 C0.2.1 dX7_meanWorn_23 (by decide) ?_
    refine lv_istore_n C0.1 C0.2.1 dX7_meanWorn_24 rfl hl (by decide) rfl (fun ls hl => ?_)
    obtain ⟨n9, h⟩ := h
    exact lX7_meanWorn_b25 C0 Y hl9 hx9 n9 _ _ _ _ _ _ _ _ h hO hS (lv_sub hl [2, 1, 0] rfl) (by omega) (by omega)
  · have h := h.2 c6
    exact t_W (text := "there are no links") (names := xnm) C0 hl9 Y.2 hx9 hO hS xf_ArithmeticException xnm_ok tb_1300 tb_102 (by decide +kernel) xat_345 xgd_34500341 hl.1 h dX7_meanWorn_10 dX7_meanWorn_13 dX7_meanWorn_14 dX7_meanWorn_17 dX7_meanWorn_20 (Nat.le_of_ble_eq_true rfl) (Nat.le_of_ble_eq_true rfl) (by show _ ≤ 1; omega) (by show _ ≤ 6; omega) (by show _ ≤ 1; omega) (by show _ ≤ 6; omega)
def wX7_meanWorn (S : Hp) (x0 : Nat) (Φ : Hp → UInt64 → Prop) (Ψ : Hp → String → Prop) : Prop := wX7_meanWorn_b0 x0 Φ Ψ S
set_option maxRecDepth 100000 in
theorem mX7_meanWorn {l : Launch} {G : Gw} (hl9 : l.stackTraces = false) {S : Hp} {x0 : Nat} {Φ : Hp → UInt64 → Prop} {Ψ : Hp → String → Prop} (h : wX7_meanWorn S x0 Φ Ψ) : gT l yX7_meanWorn cX7_meanWorn 4 (some .double) rm_X7_meanWorn [.ref x0] G S (PD Φ) Ψ := by
  unfold gT
  refine vx_ofW (cc := cX7_meanWorn) (maxL := 4) (ret := (some .double)) (by decide) rfl ?_
  intro p e s m args below meth c s₁ B hml hx9 hv
  obtain ⟨rfl, hw⟩ := hv
  obtain ⟨C0, Y, hO⟩ := mx_of B hml hw
  have hS : va_S (Ab G.b) s.heap s.heap [] := va_S.rf
  have hl := lv_entry ([.ref x0]) (n := 4) (Nat.le_of_ble_eq_true rfl)
  rw [lg_entry_eq]
  generalize (lg_sl ([.ref x0]) ++ List.replicate (4 - (lg_sl ([.ref x0])).length) Slot.unset).toArray = ls at hl ⊢
  have hl : lv_has ls 4 [(0, .ref x0)] := hl
  exact bX7_meanWorn_b0 C0 Y hl9 hx9 S _ _ _ 0 0 h hO hS hl (by decide) (by decide)

def rm_X7_isLastTurningSame : Room := { frames := 5, cells := 0, slots := 0, locals := 132 }
def wX7_isLastTurningSame_b55 (x0 : Nat) (Φ : Hp → Int32 → Prop) (k23 : Hp → Int32 → Prop) (S : Hp) (v1 : Int32) (z0 : Nat) (z1 : Nat) (z2 : Int32) (z3 : Int32) : Prop := isA S z0 7 ∧ wX7_takeStep S z0 z1 z2 z3 (fun S1 => k23 S1 (v1 + 1))
set_option maxHeartbeats 4000000 in
set_option maxRecDepth 100000 in
theorem bX7_isLastTurningSame_b55 {p : Program} {l : Launch} {e : Env} {s : State} {m : MethodId} {args : Array Value} {below : List Frame} {meth : Method} {c : Code} {G : Gw} {x0 : Nat} {Φ : Hp → Int32 → Prop} (C0 : Mx p s m c cX7_isLastTurningSame 2 args yX7_isLastTurningSame.cls G) (Y : My meth (some .boolean)) {k23 : Hp → Int32 → Prop} (hk23 : ∀ (S : Hp) (v1 : Int32) (H : Heap) (locs : List Loc) (ls : Array Slot), k23 S v1 → Ok G S H → va_S (Ab G.b) s.heap H locs → lv_has ls 2 [(0, .ref x0), (1, .int v1)] → W p l e rm_X7_isLastTurningSame s m args below meth c H locs 0 0 (MQ below (gQ G (PI Φ)) args s rm_X7_isLastTurningSame.cells rm_X7_isLastTurningSame.slots (Ab G.b)) (F0 m 23 ls [])) : ∀ (S : Hp) (v1 : Int32) (z0 : Nat) (z1 : Nat) (z2 : Int32) (z3 : Int32) (H : Heap) (locs : List Loc) (ls : Array Slot), wX7_isLastTurningSame_b55 x0 Φ k23 S v1 z0 z1 z2 z3 → Ok G S H → va_S (Ab G.b) s.heap H locs → lv_has ls 2 [(0, .ref x0), (1, .int v1)] → W p l e rm_X7_isLastTurningSame s m args below meth c H locs 0 0 (MQ below (gQ G (PI Φ)) args s rm_X7_isLastTurningSame.cells rm_X7_isLastTurningSame.slots (Ab G.b)) (F0 m 55 ls [.int z3, .int z2, .ref z1, .ref z0]) := by
  intro S v1 z0 z1 z2 z3 H locs ls h hO hS hl
  unfold wX7_isLastTurningSame_b55 at h
  obtain ⟨i2, h⟩ := h
  refine c_V C0 hO hS (mX7_takeStep h) i2 (by decide) rfl rfl tb_305 tb_307 tb_3 tb_74 tb_308 hd_X7_takeStep rfl ⟨⟨by decide, by decide⟩, by decide, by decide⟩ hl.1 rfl (Nat.le_of_ble_eq_true rfl) dX7_isLastTurningSame_55 (kV (fun S1 H locs h hO hS => ?_))
  refine lv_iinc (v := _ + 1) C0.1 C0.2.1 dX7_isLastTurningSame_58 hl (k := 1) rfl rfl (by decide) rfl (fun ls hl => ?_)
  refine lv_goto (tgt := 23) C0.1 C0.2.1 dX7_isLastTurningSame_61 (by decide) ?_
  exact hk23 _ _ _ _ _ h hO hS (lv_sub hl [1, 0] rfl)
def wX7_isLastTurningSame_b66 (x0 : Nat) (Φ : Hp → Int32 → Prop) (k66 : Hp → Int32 → Prop) (S : Hp) (v1 : Int32) : Prop := isA S x0 7 ∧ (((S.FI 461 x0) ≤ v1 → Φ S 1) ∧ (¬ ((S.FI 461 x0) ≤ v1) → ∃ a3, S.FR 460 x0 = some a3 ∧ isA S a3 6 ∧ ∃ a5, S.FR 384 a3 = some a5 ∧ ∃ a6, S.FR 458 x0 = some a6 ∧ isA S a6 6 ∧ ∃ a8, S.FR 384 a6 = some a8 ∧ isA S a5 4 ∧ wX4_isSame S a5 v1 a8 (fun S9 r10 => ((¬ r10 = 0 → k66 S9 (v1 + 1)) ∧ (r10 = 0 → Φ S9 0)))))
set_option maxHeartbeats 4000000 in
set_option maxRecDepth 100000 in
theorem bX7_isLastTurningSame_b66 {p : Program} {l : Launch} {e : Env} {s : State} {m : MethodId} {args : Array Value} {below : List Frame} {meth : Method} {c : Code} {G : Gw} {x0 : Nat} {Φ : Hp → Int32 → Prop} (C0 : Mx p s m c cX7_isLastTurningSame 2 args yX7_isLastTurningSame.cls G) (Y : My meth (some .boolean)) {k66 : Hp → Int32 → Prop} (hk66 : ∀ (S : Hp) (v1 : Int32) (H : Heap) (locs : List Loc) (ls : Array Slot), k66 S v1 → Ok G S H → va_S (Ab G.b) s.heap H locs → lv_has ls 2 [(0, .ref x0), (1, .int v1)] → W p l e rm_X7_isLastTurningSame s m args below meth c H locs 0 0 (MQ below (gQ G (PI Φ)) args s rm_X7_isLastTurningSame.cells rm_X7_isLastTurningSame.slots (Ab G.b)) (F0 m 66 ls [])) : ∀ (S : Hp) (v1 : Int32) (H : Heap) (locs : List Loc) (ls : Array Slot), wX7_isLastTurningSame_b66 x0 Φ k66 S v1 → Ok G S H → va_S (Ab G.b) s.heap H locs → lv_has ls 2 [(0, .ref x0), (1, .int v1)] → W p l e rm_X7_isLastTurningSame s m args below meth c H locs 0 0 (MQ below (gQ G (PI Φ)) args s rm_X7_isLastTurningSame.cells rm_X7_isLastTurningSame.slots (Ab G.b)) (F0 m 66 ls []) := by
  intro S v1 H locs ls h hO hS hl
  unfold wX7_isLastTurningSame_b66 at h
  refine lv_iload_n C0.1 C0.2.1 dX7_isLastTurningSame_66 rfl (lv_at hl 1 rfl) ?_
  refine lv_aload_n C0.1 C0.2.1 dX7_isLastTurningSame_67 rfl (lv_at hl 0 rfl) ?_
  obtain ⟨i1, h⟩ := h
  refine g7_13 C0 hO i1 tb_199 dX7_isLastTurningSame_68 ?_
  refine lv_icmp_ge (tgt := 103) C0.1 C0.2.1 dX7_isLastTurningSame_71 (by decide) (fun c2 => ?_) (fun c2 => ?_)
  · have h := h.1 c2
    refine lv_iconst (v := 1) C0.1 C0.2.1 dX7_isLastTurningSame_103 (by decide) ?_
    exact e_Z C0 Y hO hS rfl h (Nat.le_refl _) (Nat.le_refl _) dX7_isLastTurningSame_104
  · have h := h.2 c2
    refine lv_aload_n C0.1 C0.2.1 dX7_isLastTurningSame_74 rfl (lv_at hl 0 rfl) ?_
    obtain ⟨a3, ea3, h⟩ := h
    refine g7_12 C0 hO i1 ea3 tb_198 dX7_isLastTurningSame_75 ?_
    obtain ⟨i4, h⟩ := h
    obtain ⟨a5, ea5, h⟩ := h
    refine g6_0 C0 hO i4 ea5 tb_165 dX7_isLastTurningSame_78 ?_
    refine lv_iload_n C0.1 C0.2.1 dX7_isLastTurningSame_81 rfl (lv_at hl 1 rfl) ?_
    refine lv_aload_n C0.1 C0.2.1 dX7_isLastTurningSame_82 rfl (lv_at hl 0 rfl) ?_
    obtain ⟨a6, ea6, h⟩ := h
    refine g7_10 C0 hO i1 ea6 tb_196 dX7_isLastTurningSame_83 ?_
    obtain ⟨i7, h⟩ := h
    obtain ⟨a8, ea8, h⟩ := h
    refine g6_0 C0 hO i7 ea8 tb_165 dX7_isLastTurningSame_86 ?_
    obtain ⟨i11, h⟩ := h
    refine c_V C0 hO hS (mX4_isSame h) i11 (by decide) rfl rfl tb_381 tb_382 tb_383 tb_78 tb_384 hd_X4_isSame rfl ⟨⟨by decide, by decide⟩, by decide, by decide⟩ hl.1 rfl (Nat.le_of_ble_eq_true rfl) dX7_isLastTurningSame_89 (kI (fun r10 S9 H locs h hO hS => ?_))
    refine lv_if_ne (tgt := 97) C0.1 C0.2.1 dX7_isLastTurningSame_92 (by decide) (fun c12 => ?_) (fun c12 => ?_)
    · have h := h.1 c12
      refine lv_iinc (v := _ + 1) C0.1 C0.2.1 dX7_isLastTurningSame_97 hl (k := 1) rfl rfl (by decide) rfl (fun ls hl => ?_)
      refine lv_goto (tgt := 66) C0.1 C0.2.1 dX7_isLastTurningSame_100 (by decide) ?_
      exact hk66 _ _ _ _ _ h hO hS (lv_sub hl [1, 0] rfl)
    · have h := h.2 c12
      refine lv_iconst (v := 0) C0.1 C0.2.1 dX7_isLastTurningSame_95 (by decide) ?_
      exact e_Z C0 Y hO hS rfl h (Nat.le_refl _) (Nat.le_refl _) dX7_isLastTurningSame_96
set_option maxHeartbeats 4000000 in
set_option maxRecDepth 100000 in
theorem lX7_isLastTurningSame_b66 {p : Program} {l : Launch} {e : Env} {s : State} {m : MethodId} {args : Array Value} {below : List Frame} {meth : Method} {c : Code} {G : Gw} {x0 : Nat} {Φ : Hp → Int32 → Prop} (C0 : Mx p s m c cX7_isLastTurningSame 2 args yX7_isLastTurningSame.cls G) (Y : My meth (some .boolean))  : ∀ n9 : Nat, ∀ (S : Hp) (v1 : Int32) (H : Heap) (locs : List Loc) (ls : Array Slot), it2 (wX7_isLastTurningSame_b66 x0 Φ) n9 S v1 → Ok G S H → va_S (Ab G.b) s.heap H locs → lv_has ls 2 [(0, .ref x0), (1, .int v1)] → W p l e rm_X7_isLastTurningSame s m args below meth c H locs 0 0 (MQ below (gQ G (PI Φ)) args s rm_X7_isLastTurningSame.cells rm_X7_isLastTurningSame.slots (Ab G.b)) (F0 m 66 ls []) := by
  intro n9
  induction n9 with
  | zero => intro S v1 H locs ls h; exact (h : False).elim
  | succ n9 ih => intro S v1 H locs ls h hO hS hl; exact bX7_isLastTurningSame_b66 C0 Y ih S v1 H locs ls h hO hS hl
def wX7_isLastTurningSame_b23 (x0 : Nat) (Φ : Hp → Int32 → Prop) (k23 : Hp → Int32 → Prop) (S : Hp) (v1 : Int32) : Prop := isA S x0 7 ∧ (((if 0 ≤ (S.FI 463 x0) then (S.FI 463 x0) else 0 - (S.FI 463 x0)) ≤ v1 → ∃ n, it2 (wX7_isLastTurningSame_b66 x0 Φ) n S 0) ∧ (¬ ((if 0 ≤ (S.FI 463 x0) then (S.FI 463 x0) else 0 - (S.FI 463 x0)) ≤ v1) → ∃ a3, S.FR 460 x0 = some a3 ∧ ((0 ≤ (S.FI 463 x0) → wX7_isLastTurningSame_b55 x0 Φ k23 S v1 x0 a3 (S.FI 462 x0) 1) ∧ (¬ (0 ≤ (S.FI 463 x0)) → wX7_isLastTurningSame_b55 x0 Φ k23 S v1 x0 a3 (S.FI 462 x0) (-1)))))
set_option maxHeartbeats 4000000 in
set_option maxRecDepth 100000 in
theorem bX7_isLastTurningSame_b23 {p : Program} {l : Launch} {e : Env} {s : State} {m : MethodId} {args : Array Value} {below : List Frame} {meth : Method} {c : Code} {G : Gw} {x0 : Nat} {Φ : Hp → Int32 → Prop} (C0 : Mx p s m c cX7_isLastTurningSame 2 args yX7_isLastTurningSame.cls G) (Y : My meth (some .boolean)) {k23 : Hp → Int32 → Prop} (hk23 : ∀ (S : Hp) (v1 : Int32) (H : Heap) (locs : List Loc) (ls : Array Slot), k23 S v1 → Ok G S H → va_S (Ab G.b) s.heap H locs → lv_has ls 2 [(0, .ref x0), (1, .int v1)] → W p l e rm_X7_isLastTurningSame s m args below meth c H locs 0 0 (MQ below (gQ G (PI Φ)) args s rm_X7_isLastTurningSame.cells rm_X7_isLastTurningSame.slots (Ab G.b)) (F0 m 23 ls [])) : ∀ (S : Hp) (v1 : Int32) (H : Heap) (locs : List Loc) (ls : Array Slot), wX7_isLastTurningSame_b23 x0 Φ k23 S v1 → Ok G S H → va_S (Ab G.b) s.heap H locs → lv_has ls 2 [(0, .ref x0), (1, .int v1)] → W p l e rm_X7_isLastTurningSame s m args below meth c H locs 0 0 (MQ below (gQ G (PI Φ)) args s rm_X7_isLastTurningSame.cells rm_X7_isLastTurningSame.slots (Ab G.b)) (F0 m 23 ls []) := by
  intro S v1 H locs ls h hO hS hl
  unfold wX7_isLastTurningSame_b23 at h
  refine lv_iload_n C0.1 C0.2.1 dX7_isLastTurningSame_23 rfl (lv_at hl 1 rfl) ?_
  refine lv_aload_n C0.1 C0.2.1 dX7_isLastTurningSame_24 rfl (lv_at hl 0 rfl) ?_
  obtain ⟨i1, h⟩ := h
  refine g7_15 C0 hO i1 tb_201 dX7_isLastTurningSame_25 ?_
  refine va_mabs C0.1 C0.2.1 (C0.2.2.1.trans hl.1.symm) C0.2.2.2.1 (C0.2.2.2.2.1 _ tb_302) (C0.2.2.2.2.1 _ tb_303) (C0.2.2.2.2.1 _ tb_94) (C0.2.2.2.2.1 _ tb_304) (Nat.le_of_ble_eq_true rfl) (Nat.le_of_ble_eq_true rfl) (by decide) (by decide) dX7_isLastTurningSame_28 ?_
  refine lv_icmp_ge (tgt := 64) C0.1 C0.2.1 dX7_isLastTurningSame_31 (by decide) (fun c2 => ?_) (fun c2 => ?_)
  · have h := h.1 c2
    refine lv_iconst (v := 0) C0.1 C0.2.1 dX7_isLastTurningSame_64 (by decide) ?_
    refine lv_istore_n C0.1 C0.2.1 dX7_isLastTurningSame_65 rfl hl (by decide) rfl (fun ls hl => ?_)
    obtain ⟨n9, h⟩ := h
    exact lX7_isLastTurningSame_b66 C0 Y n9 _ _ _ _ _ h hO hS (lv_sub hl [1, 0] rfl)
  · have h := h.2 c2
    refine lv_aload_n C0.1 C0.2.1 dX7_isLastTurningSame_34 rfl (lv_at hl 0 rfl) ?_
    refine lv_aload_n C0.1 C0.2.1 dX7_isLastTurningSame_35 rfl (lv_at hl 0 rfl) ?_
    obtain ⟨a3, ea3, h⟩ := h
    refine g7_12 C0 hO i1 ea3 tb_198 dX7_isLastTurningSame_36 ?_
    refine lv_aload_n C0.1 C0.2.1 dX7_isLastTurningSame_39 rfl (lv_at hl 0 rfl) ?_
    refine g7_14 C0 hO i1 tb_200 dX7_isLastTurningSame_40 ?_
    refine lv_aload_n C0.1 C0.2.1 dX7_isLastTurningSame_43 rfl (lv_at hl 0 rfl) ?_
    refine g7_15 C0 hO i1 tb_201 dX7_isLastTurningSame_44 ?_
    refine lv_if_ge (tgt := 54) C0.1 C0.2.1 dX7_isLastTurningSame_47 (by decide) (fun c4 => ?_) (fun c4 => ?_)
    · have h := h.1 c4
      refine lv_iconst (v := 1) C0.1 C0.2.1 dX7_isLastTurningSame_54 (by decide) ?_
      exact bX7_isLastTurningSame_b55 C0 Y hk23 _ _ _ _ _ _ _ _ _ h hO hS (lv_sub hl [0, 1] rfl)
    · have h := h.2 c4
      refine lv_iconst (v := (-1)) C0.1 C0.2.1 dX7_isLastTurningSame_50 (by decide) ?_
      refine lv_goto (tgt := 55) C0.1 C0.2.1 dX7_isLastTurningSame_51 (by decide) ?_
      exact bX7_isLastTurningSame_b55 C0 Y hk23 _ _ _ _ _ _ _ _ _ h hO hS (lv_sub hl [0, 1] rfl)
set_option maxHeartbeats 4000000 in
set_option maxRecDepth 100000 in
theorem lX7_isLastTurningSame_b23 {p : Program} {l : Launch} {e : Env} {s : State} {m : MethodId} {args : Array Value} {below : List Frame} {meth : Method} {c : Code} {G : Gw} {x0 : Nat} {Φ : Hp → Int32 → Prop} (C0 : Mx p s m c cX7_isLastTurningSame 2 args yX7_isLastTurningSame.cls G) (Y : My meth (some .boolean))  : ∀ n9 : Nat, ∀ (S : Hp) (v1 : Int32) (H : Heap) (locs : List Loc) (ls : Array Slot), it2 (wX7_isLastTurningSame_b23 x0 Φ) n9 S v1 → Ok G S H → va_S (Ab G.b) s.heap H locs → lv_has ls 2 [(0, .ref x0), (1, .int v1)] → W p l e rm_X7_isLastTurningSame s m args below meth c H locs 0 0 (MQ below (gQ G (PI Φ)) args s rm_X7_isLastTurningSame.cells rm_X7_isLastTurningSame.slots (Ab G.b)) (F0 m 23 ls []) := by
  intro n9
  induction n9 with
  | zero => intro S v1 H locs ls h; exact (h : False).elim
  | succ n9 ih => intro S v1 H locs ls h hO hS hl; exact bX7_isLastTurningSame_b23 C0 Y ih S v1 H locs ls h hO hS hl
def wX7_isLastTurningSame_b0 (x0 : Nat) (Φ : Hp → Int32 → Prop) (S : Hp) : Prop := isA S x0 7 ∧ ((¬ (S.FI 462 x0) = (-1) → ∃ a3, S.FR 460 x0 = some a3 ∧ ∃ a4, S.FR 459 x0 = some a4 ∧ isA S a3 6 ∧ wX6_copyFrom S a3 a4 (fun S5 => ∃ n, it2 (wX7_isLastTurningSame_b23 x0 Φ) n S5 0)) ∧ ((S.FI 462 x0) = (-1) → Φ S 1))
set_option maxHeartbeats 4000000 in
set_option maxRecDepth 100000 in
theorem bX7_isLastTurningSame_b0 {p : Program} {l : Launch} {e : Env} {s : State} {m : MethodId} {args : Array Value} {below : List Frame} {meth : Method} {c : Code} {G : Gw} {x0 : Nat} {Φ : Hp → Int32 → Prop} (C0 : Mx p s m c cX7_isLastTurningSame 2 args yX7_isLastTurningSame.cls G) (Y : My meth (some .boolean))  : ∀ (S : Hp) (H : Heap) (locs : List Loc) (ls : Array Slot), wX7_isLastTurningSame_b0 x0 Φ S → Ok G S H → va_S (Ab G.b) s.heap H locs → lv_has ls 2 [(0, .ref x0)] → W p l e rm_X7_isLastTurningSame s m args below meth c H locs 0 0 (MQ below (gQ G (PI Φ)) args s rm_X7_isLastTurningSame.cells rm_X7_isLastTurningSame.slots (Ab G.b)) (F0 m 0 ls []) := by
  intro S H locs ls h hO hS hl
  unfold wX7_isLastTurningSame_b0 at h
  refine lv_aload_n C0.1 C0.2.1 dX7_isLastTurningSame_0 rfl (lv_at hl 0 rfl) ?_
  obtain ⟨i1, h⟩ := h
  refine g7_14 C0 hO i1 tb_200 dX7_isLastTurningSame_1 ?_
  refine lv_iconst (v := (-1)) C0.1 C0.2.1 dX7_isLastTurningSame_4 (by decide) ?_
  refine lv_icmp_ne (tgt := 10) C0.1 C0.2.1 dX7_isLastTurningSame_5 (by decide) (fun c2 => ?_) (fun c2 => ?_)
  · have h := h.1 c2
    refine lv_aload_n C0.1 C0.2.1 dX7_isLastTurningSame_10 rfl (lv_at hl 0 rfl) ?_
    obtain ⟨a3, ea3, h⟩ := h
    refine g7_12 C0 hO i1 ea3 tb_198 dX7_isLastTurningSame_11 ?_
    refine lv_aload_n C0.1 C0.2.1 dX7_isLastTurningSame_14 rfl (lv_at hl 0 rfl) ?_
    obtain ⟨a4, ea4, h⟩ := h
    refine g7_11 C0 hO i1 ea4 tb_197 dX7_isLastTurningSame_15 ?_
    obtain ⟨i6, h⟩ := h
    refine c_V C0 hO hS (mX6_copyFrom h) i6 (by decide) rfl rfl tb_288 tb_289 tb_290 tb_80 tb_291 hd_X6_copyFrom rfl ⟨⟨by decide, by decide⟩, by decide, by decide⟩ hl.1 rfl (Nat.le_of_ble_eq_true rfl) dX7_isLastTurningSame_18 (kV (fun S5 H locs h hO hS => ?_))
    refine lv_iconst (v := 0) C0.1 C0.2.1 dX7_isLastTurningSame_21 (by decide) ?_
    refine lv_istore_n C0.1 C0.2.1 dX7_isLastTurningSame_22 rfl hl (by decide) rfl (fun ls hl => ?_)
    obtain ⟨n9, h⟩ := h
    exact lX7_isLastTurningSame_b23 C0 Y n9 _ _ _ _ _ h hO hS (lv_sub hl [1, 0] rfl)
  · have h := h.2 c2
    refine lv_iconst (v := 1) C0.1 C0.2.1 dX7_isLastTurningSame_8 (by decide) ?_
    exact e_Z C0 Y hO hS rfl h (Nat.le_refl _) (Nat.le_refl _) dX7_isLastTurningSame_9
def wX7_isLastTurningSame (S : Hp) (x0 : Nat) (Φ : Hp → Int32 → Prop) : Prop := wX7_isLastTurningSame_b0 x0 Φ S
set_option maxRecDepth 100000 in
theorem mX7_isLastTurningSame {l : Launch} {G : Gw} {S : Hp} {x0 : Nat} {Φ : Hp → Int32 → Prop} (h : wX7_isLastTurningSame S x0 Φ) : gM l yX7_isLastTurningSame cX7_isLastTurningSame 2 (some .boolean) rm_X7_isLastTurningSame [.ref x0] G S (PI Φ) := by
  unfold gM
  refine Met.ofW (cc := cX7_isLastTurningSame) (maxL := 2) (ret := (some .boolean)) (by decide) rfl ?_
  intro p e s m args below meth c s₁ B hml hv
  obtain ⟨rfl, hw⟩ := hv
  obtain ⟨C0, Y, hO⟩ := mx_of B hml hw
  have hS : va_S (Ab G.b) s.heap s.heap [] := va_S.rf
  have hl := lv_entry ([.ref x0]) (n := 2) (Nat.le_of_ble_eq_true rfl)
  rw [lg_entry_eq]
  generalize (lg_sl ([.ref x0]) ++ List.replicate (2 - (lg_sl ([.ref x0])).length) Slot.unset).toArray = ls at hl ⊢
  have hl : lv_has ls 2 [(0, .ref x0)] := hl
  exact bX7_isLastTurningSame_b0 C0 Y S _ _ _ h hO hS hl

def rm_X7_areInputsWhole : Room := { frames := 3, cells := 0, slots := 0, locals := 67 }
def wX7_areInputsWhole_b39 (x0 : Nat) (Φ : Hp → Int32 → Prop) (k2 : Hp → Int32 → Prop) (S : Hp) (v1 : Int32) : Prop := k2 S (v1 + 1)
set_option maxHeartbeats 4000000 in
set_option maxRecDepth 100000 in
theorem bX7_areInputsWhole_b39 {p : Program} {l : Launch} {e : Env} {s : State} {m : MethodId} {args : Array Value} {below : List Frame} {meth : Method} {c : Code} {G : Gw} {x0 : Nat} {Φ : Hp → Int32 → Prop} (C0 : Mx p s m c cX7_areInputsWhole 2 args yX7_areInputsWhole.cls G) (Y : My meth (some .boolean)) {k2 : Hp → Int32 → Prop} (hk2 : ∀ (S : Hp) (v1 : Int32) (H : Heap) (locs : List Loc) (ls : Array Slot), k2 S v1 → Ok G S H → va_S (Ab G.b) s.heap H locs → lv_has ls 2 [(0, .ref x0), (1, .int v1)] → W p l e rm_X7_areInputsWhole s m args below meth c H locs 0 0 (MQ below (gQ G (PI Φ)) args s rm_X7_areInputsWhole.cells rm_X7_areInputsWhole.slots (Ab G.b)) (F0 m 2 ls [])) : ∀ (S : Hp) (v1 : Int32) (H : Heap) (locs : List Loc) (ls : Array Slot), wX7_areInputsWhole_b39 x0 Φ k2 S v1 → Ok G S H → va_S (Ab G.b) s.heap H locs → lv_has ls 2 [(0, .ref x0), (1, .int v1)] → W p l e rm_X7_areInputsWhole s m args below meth c H locs 0 0 (MQ below (gQ G (PI Φ)) args s rm_X7_areInputsWhole.cells rm_X7_areInputsWhole.slots (Ab G.b)) (F0 m 39 ls []) := by
  intro S v1 H locs ls h hO hS hl
  unfold wX7_areInputsWhole_b39 at h
  refine lv_iinc (v := _ + 1) C0.1 C0.2.1 dX7_areInputsWhole_39 hl (k := 1) rfl rfl (by decide) rfl (fun ls hl => ?_)
  refine lv_goto (tgt := 2) C0.1 C0.2.1 dX7_areInputsWhole_42 (by decide) ?_
  exact hk2 _ _ _ _ _ h hO hS (lv_sub hl [1, 0] rfl)
def wX7_areInputsWhole_b2 (x0 : Nat) (Φ : Hp → Int32 → Prop) (k2 : Hp → Int32 → Prop) (S : Hp) (v1 : Int32) : Prop := isA S x0 7 ∧ (((S.FI 461 x0) ≤ v1 → Φ S 1) ∧ (¬ ((S.FI 461 x0) ≤ v1) → ∃ a3, S.FR 452 x0 = some a3 ∧ isA S a3 21 ∧ vp_in v1 (S.N a3) ∧ ((¬ (S.AI a3 v1.toNatClampNeg) = (-1) → wX7_areInputsWhole_b39 x0 Φ k2 S v1) ∧ ((S.AI a3 v1.toNatClampNeg) = (-1) → ∃ a7, S.FR 458 x0 = some a7 ∧ isA S a7 6 ∧ ∃ a9, S.FR 384 a7 = some a9 ∧ isA S a9 4 ∧ wX4_isWholeTimes S a9 v1 24 (fun S10 r11 => ((¬ r11 = 0 → wX7_areInputsWhole_b39 x0 Φ k2 S10 v1) ∧ (r11 = 0 → Φ S10 0)))))))
set_option maxHeartbeats 4000000 in
set_option maxRecDepth 100000 in
theorem bX7_areInputsWhole_b2 {p : Program} {l : Launch} {e : Env} {s : State} {m : MethodId} {args : Array Value} {below : List Frame} {meth : Method} {c : Code} {G : Gw} {x0 : Nat} {Φ : Hp → Int32 → Prop} (C0 : Mx p s m c cX7_areInputsWhole 2 args yX7_areInputsWhole.cls G) (Y : My meth (some .boolean)) {k2 : Hp → Int32 → Prop} (hk2 : ∀ (S : Hp) (v1 : Int32) (H : Heap) (locs : List Loc) (ls : Array Slot), k2 S v1 → Ok G S H → va_S (Ab G.b) s.heap H locs → lv_has ls 2 [(0, .ref x0), (1, .int v1)] → W p l e rm_X7_areInputsWhole s m args below meth c H locs 0 0 (MQ below (gQ G (PI Φ)) args s rm_X7_areInputsWhole.cells rm_X7_areInputsWhole.slots (Ab G.b)) (F0 m 2 ls [])) : ∀ (S : Hp) (v1 : Int32) (H : Heap) (locs : List Loc) (ls : Array Slot), wX7_areInputsWhole_b2 x0 Φ k2 S v1 → Ok G S H → va_S (Ab G.b) s.heap H locs → lv_has ls 2 [(0, .ref x0), (1, .int v1)] → W p l e rm_X7_areInputsWhole s m args below meth c H locs 0 0 (MQ below (gQ G (PI Φ)) args s rm_X7_areInputsWhole.cells rm_X7_areInputsWhole.slots (Ab G.b)) (F0 m 2 ls []) := by
  intro S v1 H locs ls h hO hS hl
  unfold wX7_areInputsWhole_b2 at h
  refine lv_iload_n C0.1 C0.2.1 dX7_areInputsWhole_2 rfl (lv_at hl 1 rfl) ?_
  refine lv_aload_n C0.1 C0.2.1 dX7_areInputsWhole_3 rfl (lv_at hl 0 rfl) ?_
  obtain ⟨i1, h⟩ := h
  refine g7_13 C0 hO i1 tb_199 dX7_areInputsWhole_4 ?_
  refine lv_icmp_ge (tgt := 45) C0.1 C0.2.1 dX7_areInputsWhole_7 (by decide) (fun c2 => ?_) (fun c2 => ?_)
  · have h := h.1 c2
    refine lv_iconst (v := 1) C0.1 C0.2.1 dX7_areInputsWhole_45 (by decide) ?_
    exact e_Z C0 Y hO hS rfl h (Nat.le_refl _) (Nat.le_refl _) dX7_areInputsWhole_46
  · have h := h.2 c2
    refine lv_aload_n C0.1 C0.2.1 dX7_areInputsWhole_10 rfl (lv_at hl 0 rfl) ?_
    obtain ⟨a3, ea3, h⟩ := h
    refine g7_4 C0 hO i1 ea3 tb_190 dX7_areInputsWhole_11 ?_
    refine lv_iload_n C0.1 C0.2.1 dX7_areInputsWhole_14 rfl (lv_at hl 1 rfl) ?_
    obtain ⟨i4, h⟩ := h
    obtain ⟨e5, h⟩ := h
    refine r_iald C0 hO i4 e5 dX7_areInputsWhole_15 ?_
    refine lv_iconst (v := (-1)) C0.1 C0.2.1 dX7_areInputsWhole_16 (by decide) ?_
    refine lv_icmp_ne (tgt := 39) C0.1 C0.2.1 dX7_areInputsWhole_17 (by decide) (fun c6 => ?_) (fun c6 => ?_)
    · have h := h.1 c6
      exact bX7_areInputsWhole_b39 C0 Y hk2 _ _ _ _ _ h hO hS (lv_sub hl [0, 1] rfl)
    · have h := h.2 c6
      refine lv_aload_n C0.1 C0.2.1 dX7_areInputsWhole_20 rfl (lv_at hl 0 rfl) ?_
      obtain ⟨a7, ea7, h⟩ := h
      refine g7_10 C0 hO i1 ea7 tb_196 dX7_areInputsWhole_21 ?_
      obtain ⟨i8, h⟩ := h
      obtain ⟨a9, ea9, h⟩ := h
      refine g6_0 C0 hO i8 ea9 tb_165 dX7_areInputsWhole_24 ?_
      refine lv_iload_n C0.1 C0.2.1 dX7_areInputsWhole_27 rfl (lv_at hl 1 rfl) ?_
      refine lv_ldc2 (v := 24) C0.1 C0.2.1 C0.2.2.2.1 (C0.2.2.2.2.1 _ tb_390) dX7_areInputsWhole_28 ?_
      obtain ⟨i12, h⟩ := h
      refine c_V C0 hO hS (mX4_isWholeTimes h) i12 (by decide) rfl rfl tb_391 tb_392 tb_393 tb_78 tb_394 hd_X4_isWholeTimes rfl ⟨⟨by decide, by decide⟩, by decide, by decide⟩ hl.1 rfl (Nat.le_of_ble_eq_true rfl) dX7_areInputsWhole_31 (kI (fun r11 S10 H locs h hO hS => ?_))
      refine lv_if_ne (tgt := 39) C0.1 C0.2.1 dX7_areInputsWhole_34 (by decide) (fun c13 => ?_) (fun c13 => ?_)
      · have h := h.1 c13
        exact bX7_areInputsWhole_b39 C0 Y hk2 _ _ _ _ _ h hO hS (lv_sub hl [0, 1] rfl)
      · have h := h.2 c13
        refine lv_iconst (v := 0) C0.1 C0.2.1 dX7_areInputsWhole_37 (by decide) ?_
        exact e_Z C0 Y hO hS rfl h (Nat.le_refl _) (Nat.le_refl _) dX7_areInputsWhole_38
set_option maxHeartbeats 4000000 in
set_option maxRecDepth 100000 in
theorem lX7_areInputsWhole_b2 {p : Program} {l : Launch} {e : Env} {s : State} {m : MethodId} {args : Array Value} {below : List Frame} {meth : Method} {c : Code} {G : Gw} {x0 : Nat} {Φ : Hp → Int32 → Prop} (C0 : Mx p s m c cX7_areInputsWhole 2 args yX7_areInputsWhole.cls G) (Y : My meth (some .boolean))  : ∀ n9 : Nat, ∀ (S : Hp) (v1 : Int32) (H : Heap) (locs : List Loc) (ls : Array Slot), it2 (wX7_areInputsWhole_b2 x0 Φ) n9 S v1 → Ok G S H → va_S (Ab G.b) s.heap H locs → lv_has ls 2 [(0, .ref x0), (1, .int v1)] → W p l e rm_X7_areInputsWhole s m args below meth c H locs 0 0 (MQ below (gQ G (PI Φ)) args s rm_X7_areInputsWhole.cells rm_X7_areInputsWhole.slots (Ab G.b)) (F0 m 2 ls []) := by
  intro n9
  induction n9 with
  | zero => intro S v1 H locs ls h; exact (h : False).elim
  | succ n9 ih => intro S v1 H locs ls h hO hS hl; exact bX7_areInputsWhole_b2 C0 Y ih S v1 H locs ls h hO hS hl
def wX7_areInputsWhole_b0 (x0 : Nat) (Φ : Hp → Int32 → Prop) (S : Hp) : Prop := ∃ n, it2 (wX7_areInputsWhole_b2 x0 Φ) n S 0
set_option maxHeartbeats 4000000 in
set_option maxRecDepth 100000 in
theorem bX7_areInputsWhole_b0 {p : Program} {l : Launch} {e : Env} {s : State} {m : MethodId} {args : Array Value} {below : List Frame} {meth : Method} {c : Code} {G : Gw} {x0 : Nat} {Φ : Hp → Int32 → Prop} (C0 : Mx p s m c cX7_areInputsWhole 2 args yX7_areInputsWhole.cls G) (Y : My meth (some .boolean))  : ∀ (S : Hp) (H : Heap) (locs : List Loc) (ls : Array Slot), wX7_areInputsWhole_b0 x0 Φ S → Ok G S H → va_S (Ab G.b) s.heap H locs → lv_has ls 2 [(0, .ref x0)] → W p l e rm_X7_areInputsWhole s m args below meth c H locs 0 0 (MQ below (gQ G (PI Φ)) args s rm_X7_areInputsWhole.cells rm_X7_areInputsWhole.slots (Ab G.b)) (F0 m 0 ls []) := by
  intro S H locs ls h hO hS hl
  unfold wX7_areInputsWhole_b0 at h
  refine lv_iconst (v := 0) C0.1 C0.2.1 dX7_areInputsWhole_0 (by decide) ?_
  refine lv_istore_n C0.1 C0.2.1 dX7_areInputsWhole_1 rfl hl (by decide) rfl (fun ls hl => ?_)
  obtain ⟨n9, h⟩ := h
  exact lX7_areInputsWhole_b2 C0 Y n9 _ _ _ _ _ h hO hS (lv_sub hl [1, 0] rfl)
def wX7_areInputsWhole (S : Hp) (x0 : Nat) (Φ : Hp → Int32 → Prop) : Prop := wX7_areInputsWhole_b0 x0 Φ S
set_option maxRecDepth 100000 in
theorem mX7_areInputsWhole {l : Launch} {G : Gw} {S : Hp} {x0 : Nat} {Φ : Hp → Int32 → Prop} (h : wX7_areInputsWhole S x0 Φ) : gM l yX7_areInputsWhole cX7_areInputsWhole 2 (some .boolean) rm_X7_areInputsWhole [.ref x0] G S (PI Φ) := by
  unfold gM
  refine Met.ofW (cc := cX7_areInputsWhole) (maxL := 2) (ret := (some .boolean)) (by decide) rfl ?_
  intro p e s m args below meth c s₁ B hml hv
  obtain ⟨rfl, hw⟩ := hv
  obtain ⟨C0, Y, hO⟩ := mx_of B hml hw
  have hS : va_S (Ab G.b) s.heap s.heap [] := va_S.rf
  have hl := lv_entry ([.ref x0]) (n := 2) (Nat.le_of_ble_eq_true rfl)
  rw [lg_entry_eq]
  generalize (lg_sl ([.ref x0]) ++ List.replicate (2 - (lg_sl ([.ref x0])).length) Slot.unset).toArray = ls at hl ⊢
  have hl : lv_has ls 2 [(0, .ref x0)] := hl
  exact bX7_areInputsWhole_b0 C0 Y S _ _ _ h hO hS hl

def rm_X7_areCamsClosed : Room := { frames := 4, cells := 22, slots := 44, locals := 113 }
def wX7_areCamsClosed_b51 (x0 : Nat) (Φ : Hp → Int32 → Prop) (k2 : Hp → Int32 → Prop) (S : Hp) (v1 : Int32) : Prop := k2 S (v1 + 1)
set_option maxHeartbeats 4000000 in
set_option maxRecDepth 100000 in
theorem bX7_areCamsClosed_b51 {p : Program} {l : Launch} {e : Env} {s : State} {m : MethodId} {args : Array Value} {below : List Frame} {meth : Method} {c : Code} {G : Gw} {x0 : Nat} {Φ : Hp → Int32 → Prop} (C0 : Mx p s m c cX7_areCamsClosed 3 args yX7_areCamsClosed.cls G) (Y : My meth (some .boolean)) {n9_2 : Nat} {k2 : Hp → Int32 → Prop} (hk2 : ∀ (S : Hp) (v1 : Int32) (H : Heap) (locs : List Loc) (ls : Array Slot) (cells slots : Nat), k2 S v1 → Ok G S H → va_S (Ab G.b) s.heap H locs → lv_has ls 3 [(0, .ref x0), (1, .int v1)] → cells + (n9_2 * 2 + 2) ≤ 22 → slots + (n9_2 * 4 + 4) ≤ 44 → W p l e rm_X7_areCamsClosed s m args below meth c H locs cells slots (MQ below (gQ G (PI Φ)) args s rm_X7_areCamsClosed.cells rm_X7_areCamsClosed.slots (Ab G.b)) (F0 m 2 ls [])) : ∀ (S : Hp) (v1 : Int32) (H : Heap) (locs : List Loc) (ls : Array Slot) (cells slots : Nat), wX7_areCamsClosed_b51 x0 Φ k2 S v1 → Ok G S H → va_S (Ab G.b) s.heap H locs → lv_has ls 3 [(0, .ref x0), (1, .int v1)] → cells + (n9_2 * 2 + 2) ≤ 22 → slots + (n9_2 * 4 + 4) ≤ 44 → W p l e rm_X7_areCamsClosed s m args below meth c H locs cells slots (MQ below (gQ G (PI Φ)) args s rm_X7_areCamsClosed.cells rm_X7_areCamsClosed.slots (Ab G.b)) (F0 m 51 ls []) := by
  intro S v1 H locs ls cells slots h hO hS hl hcc hss
  unfold wX7_areCamsClosed_b51 at h
  refine lv_iinc (v := _ + 1) C0.1 C0.2.1 dX7_areCamsClosed_51 hl (k := 1) rfl rfl (by decide) rfl (fun ls hl => ?_)
  refine lv_goto (tgt := 2) C0.1 C0.2.1 dX7_areCamsClosed_54 (by decide) ?_
  exact hk2 _ _ _ _ _ _ _ h hO hS (lv_sub hl [1, 0] rfl) (by omega) (by omega)
def wX7_areCamsClosed_b2 (x0 : Nat) (Φ : Hp → Int32 → Prop) (k2 : Hp → Int32 → Prop) (S : Hp) (v1 : Int32) : Prop := isA S x0 7 ∧ ∃ a2, S.FR 450 x0 = some a2 ∧ isA S a2 9 ∧ wJx4a65c_size_8abf5 S a2 (fun S3 r4 => ((r4 ≤ v1 → Φ S3 1) ∧ (¬ (r4 ≤ v1) → isA S3 x0 7 ∧ ∃ a8, S3.FR 450 x0 = some a8 ∧ isA S3 a8 9 ∧ wJx4a65c_get_915e3 S3 a8 v1 (fun S9 r10 => ∃ a12, r10 = some a12 ∧ isA S9 a12 1 ∧ wX1_isWhole S9 a12 (fun S14 r15 => ((r15 = 0 → wX7_areCamsClosed_b51 x0 Φ k2 S14 v1) ∧ (¬ (r15 = 0) → isA S14 a12 1 ∧ wX1_heightAt S14 a12 24 (fun S17 r18 => ∃ a20, r18 = some a20 ∧ isA S17 a12 1 ∧ wX1_heightAt S17 a12 0 (fun S21 r22 => ∃ a24, r22 = some a24 ∧ isA S21 a20 3 ∧ wX3_isSame S21 a20 a24 (fun S25 r26 => ((¬ r26 = 0 → wX7_areCamsClosed_b51 x0 Φ k2 S25 v1) ∧ (r26 = 0 → Φ S25 0))))))))))))
set_option maxHeartbeats 4000000 in
set_option maxRecDepth 100000 in
theorem bX7_areCamsClosed_b2 {p : Program} {l : Launch} {e : Env} {s : State} {m : MethodId} {args : Array Value} {below : List Frame} {meth : Method} {c : Code} {G : Gw} {x0 : Nat} {Φ : Hp → Int32 → Prop} (C0 : Mx p s m c cX7_areCamsClosed 3 args yX7_areCamsClosed.cls G) (Y : My meth (some .boolean)) {n9_2 : Nat} {k2 : Hp → Int32 → Prop} (hk2 : ∀ (S : Hp) (v1 : Int32) (H : Heap) (locs : List Loc) (ls : Array Slot) (cells slots : Nat), k2 S v1 → Ok G S H → va_S (Ab G.b) s.heap H locs → lv_has ls 3 [(0, .ref x0), (1, .int v1)] → cells + (n9_2 * 2 + 2) ≤ 22 → slots + (n9_2 * 4 + 4) ≤ 44 → W p l e rm_X7_areCamsClosed s m args below meth c H locs cells slots (MQ below (gQ G (PI Φ)) args s rm_X7_areCamsClosed.cells rm_X7_areCamsClosed.slots (Ab G.b)) (F0 m 2 ls [])) : ∀ (S : Hp) (v1 : Int32) (H : Heap) (locs : List Loc) (ls : Array Slot) (cells slots : Nat), wX7_areCamsClosed_b2 x0 Φ k2 S v1 → Ok G S H → va_S (Ab G.b) s.heap H locs → lv_has ls 3 [(0, .ref x0), (1, .int v1)] → cells + (n9_2 * 2 + 4) ≤ 22 → slots + (n9_2 * 4 + 8) ≤ 44 → W p l e rm_X7_areCamsClosed s m args below meth c H locs cells slots (MQ below (gQ G (PI Φ)) args s rm_X7_areCamsClosed.cells rm_X7_areCamsClosed.slots (Ab G.b)) (F0 m 2 ls []) := by
  intro S v1 H locs ls cells slots h hO hS hl hcc hss
  unfold wX7_areCamsClosed_b2 at h
  refine lv_iload_n C0.1 C0.2.1 dX7_areCamsClosed_2 rfl (lv_at hl 1 rfl) ?_
  refine lv_aload_n C0.1 C0.2.1 dX7_areCamsClosed_3 rfl (lv_at hl 0 rfl) ?_
  obtain ⟨i1, h⟩ := h
  obtain ⟨a2, ea2, h⟩ := h
  refine g7_2 C0 hO i1 ea2 tb_188 dX7_areCamsClosed_4 ?_
  obtain ⟨i5, h⟩ := h
  refine c_V C0 hO hS (mJx4a65c_size_8abf5 h) i5 (by decide) rfl rfl tb_261 tb_262 tb_263 tb_77 tb_264 hd_Jx4a65c_size_8abf5 rfl ⟨⟨by decide, by decide⟩, by show _ + 0 ≤ 22; omega, by show _ + 0 ≤ 44; omega⟩ hl.1 rfl (Nat.le_of_ble_eq_true rfl) dX7_areCamsClosed_7 (kI (fun r4 S3 H locs h hO hS => ?_))
  change W _ _ _ _ _ _ _ _ _ _ _ _ (_ + 0) (_ + 0) _ _
  refine lv_icmp_ge (tgt := 57) C0.1 C0.2.1 dX7_areCamsClosed_10 (by decide) (fun c6 => ?_) (fun c6 => ?_)
  · have h := h.1 c6
    refine lv_iconst (v := 1) C0.1 C0.2.1 dX7_areCamsClosed_57 (by decide) ?_
    exact e_Z C0 Y hO hS rfl h (by show _ ≤ 22; omega) (by show _ ≤ 44; omega) dX7_areCamsClosed_58
  · have h := h.2 c6
    refine lv_aload_n C0.1 C0.2.1 dX7_areCamsClosed_13 rfl (lv_at hl 0 rfl) ?_
    obtain ⟨i7, h⟩ := h
    obtain ⟨a8, ea8, h⟩ := h
    refine g7_2 C0 hO i7 ea8 tb_188 dX7_areCamsClosed_14 ?_
    refine lv_iload_n C0.1 C0.2.1 dX7_areCamsClosed_17 rfl (lv_at hl 1 rfl) ?_
    obtain ⟨i11, h⟩ := h
    refine c_V C0 hO hS (mJx4a65c_get_915e3 h) i11 (by decide) rfl rfl tb_265 tb_266 tb_267 tb_77 tb_268 hd_Jx4a65c_get_915e3 rfl ⟨⟨by decide, by decide⟩, by show _ + 0 ≤ 22; omega, by show _ + 0 ≤ 44; omega⟩ hl.1 rfl (Nat.le_of_ble_eq_true rfl) dX7_areCamsClosed_18 (kR (fun r10 S9 H locs h hO hS => ?_))
    change W _ _ _ _ _ _ _ _ _ _ _ _ (_ + 0) (_ + 0) _ _
    obtain ⟨a12, ea12, h⟩ := h
    subst ea12
    change W _ _ _ _ _ _ _ _ _ _ _ _ _ _ _ (F0 _ _ _ (.ref a12 :: _))
    obtain ⟨i13, h⟩ := h
    refine r_castO C0 hO i13 (by decide) rfl tb_411 dX7_areCamsClosed_21 ?_
    refine lv_astore_n C0.1 C0.2.1 dX7_areCamsClosed_24 rfl hl (by decide) rfl (fun ls hl => ?_)
    refine lv_aload_n C0.1 C0.2.1 dX7_areCamsClosed_25 rfl (lv_at hl 0 rfl) ?_
    refine c_V C0 hO hS (mX1_isWhole h) i13 (by decide) rfl rfl tb_412 tb_413 tb_414 tb_99 tb_415 hd_X1_isWhole rfl ⟨⟨by decide, by decide⟩, by show _ + 0 ≤ 22; omega, by show _ + 0 ≤ 44; omega⟩ hl.1 rfl (Nat.le_of_ble_eq_true rfl) dX7_areCamsClosed_26 (kI (fun r15 S14 H locs h hO hS => ?_))
    change W _ _ _ _ _ _ _ _ _ _ _ _ (_ + 0) (_ + 0) _ _
    refine lv_if_eq (tgt := 51) C0.1 C0.2.1 dX7_areCamsClosed_29 (by decide) (fun c16 => ?_) (fun c16 => ?_)
    · have h := h.1 c16
      exact bX7_areCamsClosed_b51 C0 Y hk2 _ _ _ _ _ _ _ h hO hS (lv_sub hl [1, 2] rfl) (by omega) (by omega)
    · have h := h.2 c16
      refine lv_aload_n C0.1 C0.2.1 dX7_areCamsClosed_32 rfl (lv_at hl 0 rfl) ?_
      refine lv_bipush (v := 24) C0.1 C0.2.1 dX7_areCamsClosed_33 (by decide) ?_
      obtain ⟨i19, h⟩ := h
      refine c_V C0 hO hS (mX1_heightAt h) i19 (by decide) rfl rfl tb_416 tb_417 tb_418 tb_99 tb_419 hd_X1_heightAt rfl ⟨⟨by decide, by decide⟩, by show _ + 1 ≤ 22; omega, by show _ + 2 ≤ 44; omega⟩ hl.1 rfl (Nat.le_of_ble_eq_true rfl) dX7_areCamsClosed_35 (kR (fun r18 S17 H locs h hO hS => ?_))
      change W _ _ _ _ _ _ _ _ _ _ _ _ (_ + 1) (_ + 2) _ _
      obtain ⟨a20, ea20, h⟩ := h
      subst ea20
      change W _ _ _ _ _ _ _ _ _ _ _ _ _ _ _ (F0 _ _ _ (.ref a20 :: _))
      refine lv_aload_n C0.1 C0.2.1 dX7_areCamsClosed_38 rfl (lv_at hl 0 rfl) ?_
      refine lv_iconst (v := 0) C0.1 C0.2.1 dX7_areCamsClosed_39 (by decide) ?_
      obtain ⟨i23, h⟩ := h
      refine c_V C0 hO hS (mX1_heightAt h) i23 (by decide) rfl rfl tb_416 tb_417 tb_418 tb_99 tb_419 hd_X1_heightAt rfl ⟨⟨by decide, by decide⟩, by show _ + 1 ≤ 22; omega, by show _ + 2 ≤ 44; omega⟩ hl.1 rfl (Nat.le_of_ble_eq_true rfl) dX7_areCamsClosed_40 (kR (fun r22 S21 H locs h hO hS => ?_))
      change W _ _ _ _ _ _ _ _ _ _ _ _ (_ + 1) (_ + 2) _ _
      obtain ⟨a24, ea24, h⟩ := h
      subst ea24
      change W _ _ _ _ _ _ _ _ _ _ _ _ _ _ _ (F0 _ _ _ (.ref a24 :: _))
      obtain ⟨i27, h⟩ := h
      refine c_V C0 hO hS (mX3_isSame h) i27 (by decide) rfl rfl tb_446 tb_447 tb_448 tb_97 tb_449 hd_X3_isSame rfl ⟨⟨by decide, by decide⟩, by show _ + 0 ≤ 22; omega, by show _ + 0 ≤ 44; omega⟩ hl.1 rfl (Nat.le_of_ble_eq_true rfl) dX7_areCamsClosed_43 (kI (fun r26 S25 H locs h hO hS => ?_))
      change W _ _ _ _ _ _ _ _ _ _ _ _ (_ + 0) (_ + 0) _ _
      refine lv_if_ne (tgt := 51) C0.1 C0.2.1 dX7_areCamsClosed_46 (by decide) (fun c28 => ?_) (fun c28 => ?_)
      · have h := h.1 c28
        exact bX7_areCamsClosed_b51 C0 Y hk2 _ _ _ _ _ _ _ h hO hS (lv_sub hl [1, 2] rfl) (by omega) (by omega)
      · have h := h.2 c28
        refine lv_iconst (v := 0) C0.1 C0.2.1 dX7_areCamsClosed_49 (by decide) ?_
        exact e_Z C0 Y hO hS rfl h (by show _ ≤ 22; omega) (by show _ ≤ 44; omega) dX7_areCamsClosed_50
set_option maxHeartbeats 4000000 in
set_option maxRecDepth 100000 in
theorem lX7_areCamsClosed_b2 {p : Program} {l : Launch} {e : Env} {s : State} {m : MethodId} {args : Array Value} {below : List Frame} {meth : Method} {c : Code} {G : Gw} {x0 : Nat} {Φ : Hp → Int32 → Prop} (C0 : Mx p s m c cX7_areCamsClosed 3 args yX7_areCamsClosed.cls G) (Y : My meth (some .boolean))  : ∀ n9 : Nat, ∀ (S : Hp) (v1 : Int32) (H : Heap) (locs : List Loc) (ls : Array Slot) (cells slots : Nat), it2 (wX7_areCamsClosed_b2 x0 Φ) n9 S v1 → Ok G S H → va_S (Ab G.b) s.heap H locs → lv_has ls 3 [(0, .ref x0), (1, .int v1)] → cells + (n9 * 2 + 2) ≤ 22 → slots + (n9 * 4 + 4) ≤ 44 → W p l e rm_X7_areCamsClosed s m args below meth c H locs cells slots (MQ below (gQ G (PI Φ)) args s rm_X7_areCamsClosed.cells rm_X7_areCamsClosed.slots (Ab G.b)) (F0 m 2 ls []) := by
  intro n9
  induction n9 with
  | zero => intro S v1 H locs ls cells slots h; exact (h : False).elim
  | succ n9 ih => intro S v1 H locs ls cells slots h hO hS hl hcc hss; exact bX7_areCamsClosed_b2 C0 Y (n9_2 := n9) ih S v1 H locs ls cells slots h hO hS hl (by omega) (by omega)
def wX7_areCamsClosed_b0 (x0 : Nat) (Φ : Hp → Int32 → Prop) (S : Hp) : Prop := it2 (wX7_areCamsClosed_b2 x0 Φ) 10 S 0
set_option maxHeartbeats 4000000 in
set_option maxRecDepth 100000 in
theorem bX7_areCamsClosed_b0 {p : Program} {l : Launch} {e : Env} {s : State} {m : MethodId} {args : Array Value} {below : List Frame} {meth : Method} {c : Code} {G : Gw} {x0 : Nat} {Φ : Hp → Int32 → Prop} (C0 : Mx p s m c cX7_areCamsClosed 3 args yX7_areCamsClosed.cls G) (Y : My meth (some .boolean))  : ∀ (S : Hp) (H : Heap) (locs : List Loc) (ls : Array Slot) (cells slots : Nat), wX7_areCamsClosed_b0 x0 Φ S → Ok G S H → va_S (Ab G.b) s.heap H locs → lv_has ls 3 [(0, .ref x0)] → cells + (22) ≤ 22 → slots + (44) ≤ 44 → W p l e rm_X7_areCamsClosed s m args below meth c H locs cells slots (MQ below (gQ G (PI Φ)) args s rm_X7_areCamsClosed.cells rm_X7_areCamsClosed.slots (Ab G.b)) (F0 m 0 ls []) := by
  intro S H locs ls cells slots h hO hS hl hcc hss
  unfold wX7_areCamsClosed_b0 at h
  refine lv_iconst (v := 0) C0.1 C0.2.1 dX7_areCamsClosed_0 (by decide) ?_
  refine lv_istore_n C0.1 C0.2.1 dX7_areCamsClosed_1 rfl hl (by decide) rfl (fun ls hl => ?_)
  exact lX7_areCamsClosed_b2 C0 Y 10 _ _ _ _ _ _ _ h hO hS (lv_sub hl [1, 0] rfl) (by omega) (by omega)
def wX7_areCamsClosed (S : Hp) (x0 : Nat) (Φ : Hp → Int32 → Prop) : Prop := wX7_areCamsClosed_b0 x0 Φ S
set_option maxRecDepth 100000 in
theorem mX7_areCamsClosed {l : Launch} {G : Gw} {S : Hp} {x0 : Nat} {Φ : Hp → Int32 → Prop} (h : wX7_areCamsClosed S x0 Φ) : gM l yX7_areCamsClosed cX7_areCamsClosed 3 (some .boolean) rm_X7_areCamsClosed [.ref x0] G S (PI Φ) := by
  unfold gM
  refine Met.ofW (cc := cX7_areCamsClosed) (maxL := 3) (ret := (some .boolean)) (by decide) rfl ?_
  intro p e s m args below meth c s₁ B hml hv
  obtain ⟨rfl, hw⟩ := hv
  obtain ⟨C0, Y, hO⟩ := mx_of B hml hw
  have hS : va_S (Ab G.b) s.heap s.heap [] := va_S.rf
  have hl := lv_entry ([.ref x0]) (n := 3) (Nat.le_of_ble_eq_true rfl)
  rw [lg_entry_eq]
  generalize (lg_sl ([.ref x0]) ++ List.replicate (3 - (lg_sl ([.ref x0])).length) Slot.unset).toArray = ls at hl ⊢
  have hl : lv_has ls 3 [(0, .ref x0)] := hl
  exact bX7_areCamsClosed_b0 C0 Y S _ _ _ 0 0 h hO hS hl (by decide) (by decide)

def rm_X7_isSound : Room := { frames := 6, cells := 22, slots := 44, locals := 153 }
def wX7_isSound_b0 (x0 : Nat) (Φ : Hp → Int32 → Prop) (S : Hp) : Prop := isA S x0 7 ∧ wX7_isLastTurningSame S x0 (fun S1 r2 => ((r2 = 0 → Φ S1 0) ∧ (¬ (r2 = 0) → isA S1 x0 7 ∧ wX7_areInputsWhole S1 x0 (fun S5 r6 => ((r6 = 0 → Φ S5 0) ∧ (¬ (r6 = 0) → isA S5 x0 7 ∧ wX7_areLevelsFit S5 x0 none (fun S9 r10 => ((r10 = 0 → Φ S9 0) ∧ (¬ (r10 = 0) → isA S9 x0 7 ∧ wX7_areCamsClosed S9 x0 (fun S13 r14 => ((r14 = 0 → Φ S13 0) ∧ (¬ (r14 = 0) → Φ S13 1))))))))))))
set_option maxHeartbeats 4000000 in
set_option maxRecDepth 100000 in
theorem bX7_isSound_b0 {p : Program} {l : Launch} {e : Env} {s : State} {m : MethodId} {args : Array Value} {below : List Frame} {meth : Method} {c : Code} {G : Gw} {x0 : Nat} {Φ : Hp → Int32 → Prop} (C0 : Mx p s m c cX7_isSound 1 args yX7_isSound.cls G) (Y : My meth (some .boolean))  : ∀ (S : Hp) (H : Heap) (locs : List Loc) (ls : Array Slot) (cells slots : Nat), wX7_isSound_b0 x0 Φ S → Ok G S H → va_S (Ab G.b) s.heap H locs → lv_has ls 1 [(0, .ref x0)] → cells + (22) ≤ 22 → slots + (44) ≤ 44 → W p l e rm_X7_isSound s m args below meth c H locs cells slots (MQ below (gQ G (PI Φ)) args s rm_X7_isSound.cells rm_X7_isSound.slots (Ab G.b)) (F0 m 0 ls []) := by
  intro S H locs ls cells slots h hO hS hl hcc hss
  unfold wX7_isSound_b0 at h
  refine lv_aload_n C0.1 C0.2.1 dX7_isSound_0 rfl (lv_at hl 0 rfl) ?_
  obtain ⟨i3, h⟩ := h
  refine c_V C0 hO hS (mX7_isLastTurningSame h) i3 (by decide) rfl rfl tb_284 tb_286 tb_2 tb_74 tb_287 hd_X7_isLastTurningSame rfl ⟨⟨by decide, by decide⟩, by show _ + 0 ≤ 22; omega, by show _ + 0 ≤ 44; omega⟩ hl.1 rfl (Nat.le_of_ble_eq_true rfl) dX7_isSound_1 (kI (fun r2 S1 H locs h hO hS => ?_))
  change W _ _ _ _ _ _ _ _ _ _ _ _ (_ + 0) (_ + 0) _ _
  refine lv_if_eq (tgt := 33) C0.1 C0.2.1 dX7_isSound_4 (by decide) (fun c4 => ?_) (fun c4 => ?_)
  · have h := h.1 c4
    refine lv_iconst (v := 0) C0.1 C0.2.1 dX7_isSound_33 (by decide) ?_
    exact e_Z C0 Y hO hS rfl h (by show _ ≤ 22; omega) (by show _ ≤ 44; omega) dX7_isSound_34
  · have h := h.2 c4
    refine lv_aload_n C0.1 C0.2.1 dX7_isSound_7 rfl (lv_at hl 0 rfl) ?_
    obtain ⟨i7, h⟩ := h
    refine c_V C0 hO hS (mX7_areInputsWhole h) i7 (by decide) rfl rfl tb_386 tb_388 tb_5 tb_74 tb_389 hd_X7_areInputsWhole rfl ⟨⟨by decide, by decide⟩, by show _ + 0 ≤ 22; omega, by show _ + 0 ≤ 44; omega⟩ hl.1 rfl (Nat.le_of_ble_eq_true rfl) dX7_isSound_8 (kI (fun r6 S5 H locs h hO hS => ?_))
    change W _ _ _ _ _ _ _ _ _ _ _ _ (_ + 0) (_ + 0) _ _
    refine lv_if_eq (tgt := 33) C0.1 C0.2.1 dX7_isSound_11 (by decide) (fun c8 => ?_) (fun c8 => ?_)
    · have h := h.1 c8
      refine lv_iconst (v := 0) C0.1 C0.2.1 dX7_isSound_33 (by decide) ?_
      exact e_Z C0 Y hO hS rfl h (by show _ ≤ 22; omega) (by show _ ≤ 44; omega) dX7_isSound_34
    · have h := h.2 c8
      refine lv_aload_n C0.1 C0.2.1 dX7_isSound_14 rfl (lv_at hl 0 rfl) ?_
      refine lv_null C0.1 C0.2.1 dX7_isSound_15 ?_
      obtain ⟨i11, h⟩ := h
      refine c_V C0 hO hS (mX7_areLevelsFit h) i11 (by decide) rfl rfl tb_395 tb_397 tb_6 tb_74 tb_398 hd_X7_areLevelsFit rfl ⟨⟨by decide, by decide⟩, by show _ + 0 ≤ 22; omega, by show _ + 0 ≤ 44; omega⟩ hl.1 rfl (Nat.le_of_ble_eq_true rfl) dX7_isSound_16 (kI (fun r10 S9 H locs h hO hS => ?_))
      change W _ _ _ _ _ _ _ _ _ _ _ _ (_ + 0) (_ + 0) _ _
      refine lv_if_eq (tgt := 33) C0.1 C0.2.1 dX7_isSound_19 (by decide) (fun c12 => ?_) (fun c12 => ?_)
      · have h := h.1 c12
        refine lv_iconst (v := 0) C0.1 C0.2.1 dX7_isSound_33 (by decide) ?_
        exact e_Z C0 Y hO hS rfl h (by show _ ≤ 22; omega) (by show _ ≤ 44; omega) dX7_isSound_34
      · have h := h.2 c12
        refine lv_aload_n C0.1 C0.2.1 dX7_isSound_22 rfl (lv_at hl 0 rfl) ?_
        obtain ⟨i15, h⟩ := h
        refine c_V C0 hO hS (mX7_areCamsClosed h) i15 (by decide) rfl rfl tb_407 tb_409 tb_8 tb_74 tb_410 hd_X7_areCamsClosed rfl ⟨⟨by decide, by decide⟩, by show _ + 22 ≤ 22; omega, by show _ + 44 ≤ 44; omega⟩ hl.1 rfl (Nat.le_of_ble_eq_true rfl) dX7_isSound_23 (kI (fun r14 S13 H locs h hO hS => ?_))
        change W _ _ _ _ _ _ _ _ _ _ _ _ (_ + 22) (_ + 44) _ _
        refine lv_if_eq (tgt := 33) C0.1 C0.2.1 dX7_isSound_26 (by decide) (fun c16 => ?_) (fun c16 => ?_)
        · have h := h.1 c16
          refine lv_iconst (v := 0) C0.1 C0.2.1 dX7_isSound_33 (by decide) ?_
          exact e_Z C0 Y hO hS rfl h (by show _ ≤ 22; omega) (by show _ ≤ 44; omega) dX7_isSound_34
        · have h := h.2 c16
          refine lv_iconst (v := 1) C0.1 C0.2.1 dX7_isSound_29 (by decide) ?_
          refine lv_goto (tgt := 34) C0.1 C0.2.1 dX7_isSound_30 (by decide) ?_
          exact e_Z C0 Y hO hS rfl h (by show _ ≤ 22; omega) (by show _ ≤ 44; omega) dX7_isSound_34
def wX7_isSound (S : Hp) (x0 : Nat) (Φ : Hp → Int32 → Prop) : Prop := wX7_isSound_b0 x0 Φ S
set_option maxRecDepth 100000 in
theorem mX7_isSound {l : Launch} {G : Gw} {S : Hp} {x0 : Nat} {Φ : Hp → Int32 → Prop} (h : wX7_isSound S x0 Φ) : gM l yX7_isSound cX7_isSound 1 (some .boolean) rm_X7_isSound [.ref x0] G S (PI Φ) := by
  unfold gM
  refine Met.ofW (cc := cX7_isSound) (maxL := 1) (ret := (some .boolean)) (by decide) rfl ?_
  intro p e s m args below meth c s₁ B hml hv
  obtain ⟨rfl, hw⟩ := hv
  obtain ⟨C0, Y, hO⟩ := mx_of B hml hw
  have hS : va_S (Ab G.b) s.heap s.heap [] := va_S.rf
  have hl := lv_entry ([.ref x0]) (n := 1) (Nat.le_of_ble_eq_true rfl)
  rw [lg_entry_eq]
  generalize (lg_sl ([.ref x0]) ++ List.replicate (1 - (lg_sl ([.ref x0])).length) Slot.unset).toArray = ls at hl ⊢
  have hl : lv_has ls 1 [(0, .ref x0)] := hl
  exact bX7_isSound_b0 C0 Y S _ _ _ 0 0 h hO hS hl (by decide) (by decide)
