def rm_L_law : Room := { frames := 44, cells := 603072, slots := 7198826, locals := 1032 }
def wL_law_b3146 (x0 : (Nat → Int32)) (L9 : Nat) (k28 : Hp → Nat → Nat → Nat → Nat → Int32 → Prop) (S : Hp) (v1 : Nat) (v2 : Nat) (v3 : Nat) (v4 : Nat) (v5 : Int32) : Prop := k28 S v1 v2 v3 v4 (v5 + 6)
set_option maxHeartbeats 4000000 in
set_option maxRecDepth 100000 in
theorem bL_law_b3146 {p : Program} {l : Launch} {e : Env} {s : State} {m : MethodId} {args : Array Value} {below : List Frame} {meth : Method} {c : Code} {G : Gw} {b9 : Nat} {Q : State → Prop} {x0 : (Nat → Int32)} {L9 : Nat} (C0 : Mx p s m c code 9 args yL_law.cls G) (Y : My meth (some .boolean)) (hl9 : l.stackTraces = false) (hX9 : va_X b9 L9 x0 s s.heap) (hbl9 : b9 < s.heap.size) (hbA9 : ¬ Ab G.b b9) (hend9 : ∀ (pc : Nat) (H : Heap) (locs : List Loc) (ls : Array Slot) (cells slots : Nat), decode code pc = .ok (.ireturn, 1) → va_S (Ab G.b) s.heap H locs → cells ≤ 603072 → slots ≤ 7198826 → W p l e room_1 s m args below meth c H locs cells slots Q (F0 m pc ls [.int 1])) {n9_28 : Nat} {k28 : Hp → Nat → Nat → Nat → Nat → Int32 → Prop} (hk28 : ∀ (S : Hp) (v1 : Nat) (v2 : Nat) (v3 : Nat) (v4 : Nat) (v5 : Int32) (H : Heap) (locs : List Loc) (ls : Array Slot) (cells slots : Nat), k28 S v1 v2 v3 v4 v5 → Ok G S H → va_S (Ab G.b) s.heap H locs → lv_has ls 9 [(0, .ref b9), (1, .ref v1), (2, .ref v2), (3, .ref v3), (4, .ref v4), (5, .int v5)] → cells + (n9_28 * 97 + 97) ≤ 603072 → slots + (n9_28 * 2225 + 2225) ≤ 7198826 → W p l e room_1 s m args below meth c H locs cells slots Q (F0 m 28 ls [])) : ∀ (S : Hp) (v1 : Nat) (v2 : Nat) (v3 : Nat) (v4 : Nat) (v5 : Int32) (H : Heap) (locs : List Loc) (ls : Array Slot) (cells slots : Nat), wL_law_b3146 x0 L9 k28 S v1 v2 v3 v4 v5 → Ok G S H → va_S (Ab G.b) s.heap H locs → lv_has ls 9 [(0, .ref b9), (1, .ref v1), (2, .ref v2), (3, .ref v3), (4, .ref v4), (5, .int v5)] → cells + (n9_28 * 97 + 97) ≤ 603072 → slots + (n9_28 * 2225 + 2225) ≤ 7198826 → W p l e room_1 s m args below meth c H locs cells slots Q (F0 m 3146 ls []) := by
  intro S v1 v2 v3 v4 v5 H locs ls cells slots h hO hS hl hcc hss
  unfold wL_law_b3146 at h
  refine lv_iinc (v := _ + 6) C0.1 C0.2.1 dL_law_3146 hl (k := 5) rfl rfl (by decide) rfl (fun ls hl => ?_)
  refine lv_goto (tgt := 28) C0.1 C0.2.1 dL_law_3149 (by decide) ?_
  exact hk28 _ _ _ _ _ _ _ _ _ _ _ h hO hS (lv_sub hl [1, 2, 3, 4, 5, 0] rfl) (by clear h; omega) (by clear h; omega)
def wL_law_b269 (x0 : (Nat → Int32)) (L9 : Nat) (k28 : Hp → Nat → Nat → Nat → Nat → Int32 → Prop) (S : Hp) (v1 : Nat) (v2 : Nat) (v3 : Nat) (v4 : Nat) (v5 : Int32) : Prop := wL_law_b3146 x0 L9 k28 S v1 v2 v3 v4 v5
set_option maxHeartbeats 4000000 in
set_option maxRecDepth 100000 in
theorem bL_law_b269 {p : Program} {l : Launch} {e : Env} {s : State} {m : MethodId} {args : Array Value} {below : List Frame} {meth : Method} {c : Code} {G : Gw} {b9 : Nat} {Q : State → Prop} {x0 : (Nat → Int32)} {L9 : Nat} (C0 : Mx p s m c code 9 args yL_law.cls G) (Y : My meth (some .boolean)) (hl9 : l.stackTraces = false) (hX9 : va_X b9 L9 x0 s s.heap) (hbl9 : b9 < s.heap.size) (hbA9 : ¬ Ab G.b b9) (hend9 : ∀ (pc : Nat) (H : Heap) (locs : List Loc) (ls : Array Slot) (cells slots : Nat), decode code pc = .ok (.ireturn, 1) → va_S (Ab G.b) s.heap H locs → cells ≤ 603072 → slots ≤ 7198826 → W p l e room_1 s m args below meth c H locs cells slots Q (F0 m pc ls [.int 1])) {n9_28 : Nat} {k28 : Hp → Nat → Nat → Nat → Nat → Int32 → Prop} (hk28 : ∀ (S : Hp) (v1 : Nat) (v2 : Nat) (v3 : Nat) (v4 : Nat) (v5 : Int32) (H : Heap) (locs : List Loc) (ls : Array Slot) (cells slots : Nat), k28 S v1 v2 v3 v4 v5 → Ok G S H → va_S (Ab G.b) s.heap H locs → lv_has ls 9 [(0, .ref b9), (1, .ref v1), (2, .ref v2), (3, .ref v3), (4, .ref v4), (5, .int v5)] → cells + (n9_28 * 97 + 97) ≤ 603072 → slots + (n9_28 * 2225 + 2225) ≤ 7198826 → W p l e room_1 s m args below meth c H locs cells slots Q (F0 m 28 ls [])) : ∀ (S : Hp) (v1 : Nat) (v2 : Nat) (v3 : Nat) (v4 : Nat) (v5 : Int32) (H : Heap) (locs : List Loc) (ls : Array Slot) (cells slots : Nat), wL_law_b269 x0 L9 k28 S v1 v2 v3 v4 v5 → Ok G S H → va_S (Ab G.b) s.heap H locs → lv_has ls 9 [(0, .ref b9), (1, .ref v1), (2, .ref v2), (3, .ref v3), (4, .ref v4), (5, .int v5)] → cells + (n9_28 * 97 + 97) ≤ 603072 → slots + (n9_28 * 2225 + 2225) ≤ 7198826 → W p l e room_1 s m args below meth c H locs cells slots Q (F0 m 269 ls []) := by
  intro S v1 v2 v3 v4 v5 H locs ls cells slots h hO hS hl hcc hss
  unfold wL_law_b269 at h
  refine lv_goto (tgt := 3146) C0.1 C0.2.1 dL_law_269 (by decide) ?_
  exact bL_law_b3146 C0 Y hl9 hX9 hbl9 hbA9 hend9 hk28 _ _ _ _ _ _ _ _ _ _ _ h hO hS (lv_sub hl [0, 1, 2, 3, 4, 5] rfl) (by clear h; omega) (by clear h; omega)
def wL_law_b228 (x0 : (Nat → Int32)) (L9 : Nat) (k28 : Hp → Nat → Nat → Nat → Nat → Int32 → Prop) (S : Hp) (v1 : Nat) (v2 : Nat) (v3 : Nat) (v4 : Nat) (v5 : Int32) : Prop := wL_shaft S v1 v3 (fun S1 r2 => isA S1 v2 8 ∧ wX8_shaft S1 v2 (fun S3 r4 => isA S3 v2 8 ∧ wX8_thrown S3 v2 (fun S6 r7 => ((r7 = r2 → ((¬ r2 = 0 → wL_law_b269 x0 L9 k28 S6 v1 v2 v3 v4 v5) ∧ (r2 = 0 → isA S6 v3 22 ∧ vp_in 0 (S6.N v3) ∧ (((lg_cmp (S6.AJ v3 ((0 : Int32).toNatClampNeg)) r4.toInt64) = 0 → wL_law_b269 x0 L9 k28 S6 v1 v2 v3 v4 v5) ∧ (¬ ((lg_cmp (S6.AJ v3 ((0 : Int32).toNatClampNeg)) r4.toInt64) = 0) → False))))) ∧ (¬ (r7 = r2) → False)))))
set_option maxHeartbeats 4000000 in
set_option maxRecDepth 100000 in
theorem bL_law_b228 {p : Program} {l : Launch} {e : Env} {s : State} {m : MethodId} {args : Array Value} {below : List Frame} {meth : Method} {c : Code} {G : Gw} {b9 : Nat} {Q : State → Prop} {x0 : (Nat → Int32)} {L9 : Nat} (C0 : Mx p s m c code 9 args yL_law.cls G) (Y : My meth (some .boolean)) (hl9 : l.stackTraces = false) (hX9 : va_X b9 L9 x0 s s.heap) (hbl9 : b9 < s.heap.size) (hbA9 : ¬ Ab G.b b9) (hend9 : ∀ (pc : Nat) (H : Heap) (locs : List Loc) (ls : Array Slot) (cells slots : Nat), decode code pc = .ok (.ireturn, 1) → va_S (Ab G.b) s.heap H locs → cells ≤ 603072 → slots ≤ 7198826 → W p l e room_1 s m args below meth c H locs cells slots Q (F0 m pc ls [.int 1])) {n9_28 : Nat} {k28 : Hp → Nat → Nat → Nat → Nat → Int32 → Prop} (hk28 : ∀ (S : Hp) (v1 : Nat) (v2 : Nat) (v3 : Nat) (v4 : Nat) (v5 : Int32) (H : Heap) (locs : List Loc) (ls : Array Slot) (cells slots : Nat), k28 S v1 v2 v3 v4 v5 → Ok G S H → va_S (Ab G.b) s.heap H locs → lv_has ls 9 [(0, .ref b9), (1, .ref v1), (2, .ref v2), (3, .ref v3), (4, .ref v4), (5, .int v5)] → cells + (n9_28 * 97 + 97) ≤ 603072 → slots + (n9_28 * 2225 + 2225) ≤ 7198826 → W p l e room_1 s m args below meth c H locs cells slots Q (F0 m 28 ls [])) : ∀ (S : Hp) (v1 : Nat) (v2 : Nat) (v3 : Nat) (v4 : Nat) (v5 : Int32) (H : Heap) (locs : List Loc) (ls : Array Slot) (cells slots : Nat), wL_law_b228 x0 L9 k28 S v1 v2 v3 v4 v5 → Ok G S H → va_S (Ab G.b) s.heap H locs → lv_has ls 9 [(0, .ref b9), (1, .ref v1), (2, .ref v2), (3, .ref v3), (4, .ref v4), (5, .int v5)] → cells + (n9_28 * 97 + 98) ≤ 603072 → slots + (n9_28 * 2225 + 2231) ≤ 7198826 → W p l e room_1 s m args below meth c H locs cells slots Q (F0 m 228 ls []) := by
  intro S v1 v2 v3 v4 v5 H locs ls cells slots h hO hS hl hcc hss
  unfold wL_law_b228 at h
  refine lv_aload_n C0.1 C0.2.1 dL_law_228 rfl (lv_at hl 1 rfl) ?_
  refine lv_aload_n C0.1 C0.2.1 dL_law_229 rfl (lv_at hl 3 rfl) ?_
  refine c_SW C0 hO hS (mL_shaft hl9 h) tb_450 tb_451 tb_73 tb_452 hd_L_shaft rfl ⟨⟨by decide, by decide⟩, by show _ + 1 ≤ 603072; omega, by show _ + 6 ≤ 7198826; omega⟩ hl.1 rfl (Nat.le_of_ble_eq_true rfl) dL_law_230 (kI (fun r2 S1 H locs h hO hS => ?_))
  change W _ _ _ _ _ _ _ _ _ _ _ _ (_ + 1) (_ + 6) _ _
  refine lv_istore C0.1 C0.2.1 dL_law_233 hl (by decide) rfl (fun ls hl => ?_)
  refine lv_aload_n C0.1 C0.2.1 dL_law_235 rfl (lv_at hl 3 rfl) ?_
  obtain ⟨i5, h⟩ := h
  refine c_V C0 hO hS (mX8_shaft h) i5 (by decide) rfl rfl tb_1447 tb_1448 tb_1449 tb_81 tb_1450 hd_X8_shaft rfl ⟨⟨by decide, by decide⟩, by show _ + 0 ≤ 603072; omega, by show _ + 0 ≤ 7198826; omega⟩ hl.1 rfl (Nat.le_of_ble_eq_true rfl) dL_law_236 (kI (fun r4 S3 H locs h hO hS => ?_))
  change W _ _ _ _ _ _ _ _ _ _ _ _ (_ + 0) (_ + 0) _ _
  refine lv_istore C0.1 C0.2.1 dL_law_239 hl (by decide) rfl (fun ls hl => ?_)
  refine lv_aload_n C0.1 C0.2.1 dL_law_241 rfl (lv_at hl 4 rfl) ?_
  obtain ⟨i8, h⟩ := h
  refine c_V C0 hO hS (mX8_thrown h) i8 (by decide) rfl rfl tb_1443 tb_1444 tb_1445 tb_81 tb_1446 hd_X8_thrown rfl ⟨⟨by decide, by decide⟩, by show _ + 0 ≤ 603072; omega, by show _ + 0 ≤ 7198826; omega⟩ hl.1 rfl (Nat.le_of_ble_eq_true rfl) dL_law_242 (kI (fun r7 S6 H locs h hO hS => ?_))
  change W _ _ _ _ _ _ _ _ _ _ _ _ (_ + 0) (_ + 0) _ _
  refine lv_iload C0.1 C0.2.1 dL_law_245 (lv_at hl 1 rfl) ?_
  refine lv_icmp_eq (tgt := 252) C0.1 C0.2.1 dL_law_247 (by decide) (fun c9 => ?_) (fun c9 => ?_)
  · replace h := h.1 c9
    refine lv_iload C0.1 C0.2.1 dL_law_252 (lv_at hl 1 rfl) ?_
    refine lv_if_ne (tgt := 269) C0.1 C0.2.1 dL_law_254 (by decide) (fun c10 => ?_) (fun c10 => ?_)
    · replace h := h.1 c10
      exact bL_law_b269 C0 Y hl9 hX9 hbl9 hbA9 hend9 hk28 _ _ _ _ _ _ _ _ _ _ _ h hO hS (lv_sub hl [2, 3, 4, 5, 6, 7] rfl) (by clear h; omega) (by clear h; omega)
    · replace h := h.2 c10
      refine lv_aload_n C0.1 C0.2.1 dL_law_257 rfl (lv_at hl 5 rfl) ?_
      refine lv_iconst (v := 0) C0.1 C0.2.1 dL_law_258 (by decide) ?_
      obtain ⟨i11, h⟩ := h
      obtain ⟨e12, h⟩ := h
      refine r_lald C0 hO i11 e12 dL_law_259 ?_
      refine lv_iload C0.1 C0.2.1 dL_law_260 (lv_at hl 0 rfl) ?_
      refine lv_i2l C0.1 C0.2.1 dL_law_262 rfl ?_
      refine W.lcmp C0.1 C0.2.1 dL_law_263 ?_
      refine lv_if_eq (tgt := 269) C0.1 C0.2.1 dL_law_264 (by decide) (fun c13 => ?_) (fun c13 => ?_)
      · replace h := h.1 c13
        exact bL_law_b269 C0 Y hl9 hX9 hbl9 hbA9 hend9 hk28 _ _ _ _ _ _ _ _ _ _ _ h hO hS (lv_sub hl [2, 3, 4, 5, 6, 7] rfl) (by clear h; omega) (by clear h; omega)
      · replace h := h.2 c13
        refine lv_iconst (v := 0) C0.1 C0.2.1 dL_law_267 (by decide) ?_
        exact h.elim
  · replace h := h.2 c9
    refine lv_iconst (v := 0) C0.1 C0.2.1 dL_law_250 (by decide) ?_
    exact h.elim
def wL_law_b375 (x0 : (Nat → Int32)) (L9 : Nat) (k28 : Hp → Nat → Nat → Nat → Nat → Int32 → Prop) (S : Hp) (v1 : Nat) (v2 : Nat) (v3 : Nat) (v4 : Nat) (v5 : Int32) : Prop := wL_law_b3146 x0 L9 k28 S v1 v2 v3 v4 v5
set_option maxHeartbeats 4000000 in
set_option maxRecDepth 100000 in
theorem bL_law_b375 {p : Program} {l : Launch} {e : Env} {s : State} {m : MethodId} {args : Array Value} {below : List Frame} {meth : Method} {c : Code} {G : Gw} {b9 : Nat} {Q : State → Prop} {x0 : (Nat → Int32)} {L9 : Nat} (C0 : Mx p s m c code 9 args yL_law.cls G) (Y : My meth (some .boolean)) (hl9 : l.stackTraces = false) (hX9 : va_X b9 L9 x0 s s.heap) (hbl9 : b9 < s.heap.size) (hbA9 : ¬ Ab G.b b9) (hend9 : ∀ (pc : Nat) (H : Heap) (locs : List Loc) (ls : Array Slot) (cells slots : Nat), decode code pc = .ok (.ireturn, 1) → va_S (Ab G.b) s.heap H locs → cells ≤ 603072 → slots ≤ 7198826 → W p l e room_1 s m args below meth c H locs cells slots Q (F0 m pc ls [.int 1])) {n9_28 : Nat} {k28 : Hp → Nat → Nat → Nat → Nat → Int32 → Prop} (hk28 : ∀ (S : Hp) (v1 : Nat) (v2 : Nat) (v3 : Nat) (v4 : Nat) (v5 : Int32) (H : Heap) (locs : List Loc) (ls : Array Slot) (cells slots : Nat), k28 S v1 v2 v3 v4 v5 → Ok G S H → va_S (Ab G.b) s.heap H locs → lv_has ls 9 [(0, .ref b9), (1, .ref v1), (2, .ref v2), (3, .ref v3), (4, .ref v4), (5, .int v5)] → cells + (n9_28 * 97 + 97) ≤ 603072 → slots + (n9_28 * 2225 + 2225) ≤ 7198826 → W p l e room_1 s m args below meth c H locs cells slots Q (F0 m 28 ls [])) : ∀ (S : Hp) (v1 : Nat) (v2 : Nat) (v3 : Nat) (v4 : Nat) (v5 : Int32) (H : Heap) (locs : List Loc) (ls : Array Slot) (cells slots : Nat), wL_law_b375 x0 L9 k28 S v1 v2 v3 v4 v5 → Ok G S H → va_S (Ab G.b) s.heap H locs → lv_has ls 9 [(0, .ref b9), (1, .ref v1), (2, .ref v2), (3, .ref v3), (4, .ref v4), (5, .int v5)] → cells + (n9_28 * 97 + 97) ≤ 603072 → slots + (n9_28 * 2225 + 2225) ≤ 7198826 → W p l e room_1 s m args below meth c H locs cells slots Q (F0 m 375 ls []) := by
  intro S v1 v2 v3 v4 v5 H locs ls cells slots h hO hS hl hcc hss
  unfold wL_law_b375 at h
  refine lv_goto (tgt := 3146) C0.1 C0.2.1 dL_law_375 (by decide) ?_
  exact bL_law_b3146 C0 Y hl9 hX9 hbl9 hbA9 hend9 hk28 _ _ _ _ _ _ _ _ _ _ _ h hO hS (lv_sub hl [0, 1, 2, 3, 4, 5] rfl) (by clear h; omega) (by clear h; omega)
def wL_law_b272 (x0 : (Nat → Int32)) (L9 : Nat) (k28 : Hp → Nat → Nat → Nat → Nat → Int32 → Prop) (S : Hp) (v1 : Nat) (v2 : Nat) (v3 : Nat) (v4 : Nat) (v5 : Int32) : Prop := vp_in (v5 + 1) L9 ∧ vp_in (v5 + 2) L9 ∧ vp_in (v5 + 3) L9 ∧ vp_in (v5 + 4) L9 ∧ vp_in (v5 + 5) L9 ∧ wL_link S v1 (((x0 (v5 + 1).toNatClampNeg).toUInt32 % 65536).toInt32) (x0 (v5 + 2).toNatClampNeg) (x0 (v5 + 3).toNatClampNeg) (x0 (v5 + 4).toNatClampNeg) (x0 (v5 + 5).toNatClampNeg) v3 (fun S6 r7 => vp_in (v5 + 1) L9 ∧ vp_in (v5 + 2) L9 ∧ vp_in (v5 + 3) L9 ∧ vp_in (v5 + 4) L9 ∧ vp_in (v5 + 5) L9 ∧ isA S6 v2 8 ∧ wX8_link S6 v2 (((x0 (v5 + 1).toNatClampNeg).toUInt32 % 65536).toInt32) (x0 (v5 + 2).toNatClampNeg) (x0 (v5 + 3).toNatClampNeg) (x0 (v5 + 4).toNatClampNeg) (x0 (v5 + 5).toNatClampNeg) (fun S13 r14 => isA S13 v2 8 ∧ wX8_thrown S13 v2 (fun S16 r17 => ((r17 = r7 → ((¬ r7 = 0 → wL_law_b375 x0 L9 k28 S16 v1 v2 v3 v4 v5) ∧ (r7 = 0 → isA S16 v3 22 ∧ vp_in 0 (S16.N v3) ∧ (((lg_cmp (S16.AJ v3 ((0 : Int32).toNatClampNeg)) r14.toInt64) = 0 → wL_law_b375 x0 L9 k28 S16 v1 v2 v3 v4 v5) ∧ (¬ ((lg_cmp (S16.AJ v3 ((0 : Int32).toNatClampNeg)) r14.toInt64) = 0) → False))))) ∧ (¬ (r17 = r7) → False)))))
set_option maxHeartbeats 4000000 in
set_option maxRecDepth 100000 in
theorem bL_law_b272 {p : Program} {l : Launch} {e : Env} {s : State} {m : MethodId} {args : Array Value} {below : List Frame} {meth : Method} {c : Code} {G : Gw} {b9 : Nat} {Q : State → Prop} {x0 : (Nat → Int32)} {L9 : Nat} (C0 : Mx p s m c code 9 args yL_law.cls G) (Y : My meth (some .boolean)) (hl9 : l.stackTraces = false) (hX9 : va_X b9 L9 x0 s s.heap) (hbl9 : b9 < s.heap.size) (hbA9 : ¬ Ab G.b b9) (hend9 : ∀ (pc : Nat) (H : Heap) (locs : List Loc) (ls : Array Slot) (cells slots : Nat), decode code pc = .ok (.ireturn, 1) → va_S (Ab G.b) s.heap H locs → cells ≤ 603072 → slots ≤ 7198826 → W p l e room_1 s m args below meth c H locs cells slots Q (F0 m pc ls [.int 1])) {n9_28 : Nat} {k28 : Hp → Nat → Nat → Nat → Nat → Int32 → Prop} (hk28 : ∀ (S : Hp) (v1 : Nat) (v2 : Nat) (v3 : Nat) (v4 : Nat) (v5 : Int32) (H : Heap) (locs : List Loc) (ls : Array Slot) (cells slots : Nat), k28 S v1 v2 v3 v4 v5 → Ok G S H → va_S (Ab G.b) s.heap H locs → lv_has ls 9 [(0, .ref b9), (1, .ref v1), (2, .ref v2), (3, .ref v3), (4, .ref v4), (5, .int v5)] → cells + (n9_28 * 97 + 97) ≤ 603072 → slots + (n9_28 * 2225 + 2225) ≤ 7198826 → W p l e room_1 s m args below meth c H locs cells slots Q (F0 m 28 ls [])) : ∀ (S : Hp) (v1 : Nat) (v2 : Nat) (v3 : Nat) (v4 : Nat) (v5 : Int32) (H : Heap) (locs : List Loc) (ls : Array Slot) (cells slots : Nat), wL_law_b272 x0 L9 k28 S v1 v2 v3 v4 v5 → Ok G S H → va_S (Ab G.b) s.heap H locs → lv_has ls 9 [(0, .ref b9), (1, .ref v1), (2, .ref v2), (3, .ref v3), (4, .ref v4), (5, .int v5)] → cells + (n9_28 * 97 + 191) ≤ 603072 → slots + (n9_28 * 2225 + 4432) ≤ 7198826 → W p l e room_1 s m args below meth c H locs cells slots Q (F0 m 272 ls []) := by
  intro S v1 v2 v3 v4 v5 H locs ls cells slots h hO hS hl hcc hss
  unfold wL_law_b272 at h
  refine lv_aload_n C0.1 C0.2.1 dL_law_272 rfl (lv_at hl 1 rfl) ?_
  refine lv_aload_n C0.1 C0.2.1 dL_law_273 rfl (lv_at hl 0 rfl) ?_
  refine lv_iload C0.1 C0.2.1 dL_law_274 (lv_at hl 5 rfl) ?_
  refine lv_iconst (v := 1) C0.1 C0.2.1 dL_law_276 (by decide) ?_
  refine lv_iadd C0.1 C0.2.1 dL_law_277 ?_
  obtain ⟨e1, h⟩ := h
  refine va_sld C0.1 C0.2.1 hX9 hbl9 hbA9 hS e1 dL_law_278 ?_
  refine lv_i2c C0.1 C0.2.1 dL_law_279 rfl ?_
  refine lv_aload_n C0.1 C0.2.1 dL_law_280 rfl (lv_at hl 0 rfl) ?_
  refine lv_iload C0.1 C0.2.1 dL_law_281 (lv_at hl 5 rfl) ?_
  refine lv_iconst (v := 2) C0.1 C0.2.1 dL_law_283 (by decide) ?_
  refine lv_iadd C0.1 C0.2.1 dL_law_284 ?_
  obtain ⟨e2, h⟩ := h
  refine va_sld C0.1 C0.2.1 hX9 hbl9 hbA9 hS e2 dL_law_285 ?_
  refine lv_aload_n C0.1 C0.2.1 dL_law_286 rfl (lv_at hl 0 rfl) ?_
  refine lv_iload C0.1 C0.2.1 dL_law_287 (lv_at hl 5 rfl) ?_
  refine lv_iconst (v := 3) C0.1 C0.2.1 dL_law_289 (by decide) ?_
  refine lv_iadd C0.1 C0.2.1 dL_law_290 ?_
  obtain ⟨e3, h⟩ := h
  refine va_sld C0.1 C0.2.1 hX9 hbl9 hbA9 hS e3 dL_law_291 ?_
  refine lv_aload_n C0.1 C0.2.1 dL_law_292 rfl (lv_at hl 0 rfl) ?_
  refine lv_iload C0.1 C0.2.1 dL_law_293 (lv_at hl 5 rfl) ?_
  refine lv_iconst (v := 4) C0.1 C0.2.1 dL_law_295 (by decide) ?_
  refine lv_iadd C0.1 C0.2.1 dL_law_296 ?_
  obtain ⟨e4, h⟩ := h
  refine va_sld C0.1 C0.2.1 hX9 hbl9 hbA9 hS e4 dL_law_297 ?_
  refine lv_aload_n C0.1 C0.2.1 dL_law_298 rfl (lv_at hl 0 rfl) ?_
  refine lv_iload C0.1 C0.2.1 dL_law_299 (lv_at hl 5 rfl) ?_
  refine lv_iconst (v := 5) C0.1 C0.2.1 dL_law_301 (by decide) ?_
  refine lv_iadd C0.1 C0.2.1 dL_law_302 ?_
  obtain ⟨e5, h⟩ := h
  refine va_sld C0.1 C0.2.1 hX9 hbl9 hbA9 hS e5 dL_law_303 ?_
  refine lv_aload_n C0.1 C0.2.1 dL_law_304 rfl (lv_at hl 3 rfl) ?_
  refine c_SW C0 hO hS (mL_link hl9 h) tb_530 tb_531 tb_73 tb_532 hd_L_link rfl ⟨⟨by decide, by decide⟩, by show _ + 94 ≤ 603072; omega, by show _ + 2207 ≤ 7198826; omega⟩ hl.1 rfl (Nat.le_of_ble_eq_true rfl) dL_law_305 (kI (fun r7 S6 H locs h hO hS => ?_))
  change W _ _ _ _ _ _ _ _ _ _ _ _ (_ + 94) (_ + 2207) _ _
  refine lv_istore C0.1 C0.2.1 dL_law_308 hl (by decide) rfl (fun ls hl => ?_)
  refine lv_aload_n C0.1 C0.2.1 dL_law_310 rfl (lv_at hl 3 rfl) ?_
  refine lv_aload_n C0.1 C0.2.1 dL_law_311 rfl (lv_at hl 1 rfl) ?_
  refine lv_iload C0.1 C0.2.1 dL_law_312 (lv_at hl 6 rfl) ?_
  refine lv_iconst (v := 1) C0.1 C0.2.1 dL_law_314 (by decide) ?_
  refine lv_iadd C0.1 C0.2.1 dL_law_315 ?_
  obtain ⟨e8, h⟩ := h
  refine va_sld C0.1 C0.2.1 hX9 hbl9 hbA9 hS e8 dL_law_316 ?_
  refine lv_i2c C0.1 C0.2.1 dL_law_317 rfl ?_
  refine lv_aload_n C0.1 C0.2.1 dL_law_318 rfl (lv_at hl 1 rfl) ?_
  refine lv_iload C0.1 C0.2.1 dL_law_319 (lv_at hl 6 rfl) ?_
  refine lv_iconst (v := 2) C0.1 C0.2.1 dL_law_321 (by decide) ?_
  refine lv_iadd C0.1 C0.2.1 dL_law_322 ?_
  obtain ⟨e9, h⟩ := h
  refine va_sld C0.1 C0.2.1 hX9 hbl9 hbA9 hS e9 dL_law_323 ?_
  refine lv_aload_n C0.1 C0.2.1 dL_law_324 rfl (lv_at hl 1 rfl) ?_
  refine lv_iload C0.1 C0.2.1 dL_law_325 (lv_at hl 6 rfl) ?_
  refine lv_iconst (v := 3) C0.1 C0.2.1 dL_law_327 (by decide) ?_
  refine lv_iadd C0.1 C0.2.1 dL_law_328 ?_
  obtain ⟨e10, h⟩ := h
  refine va_sld C0.1 C0.2.1 hX9 hbl9 hbA9 hS e10 dL_law_329 ?_
  refine lv_aload_n C0.1 C0.2.1 dL_law_330 rfl (lv_at hl 1 rfl) ?_
  refine lv_iload C0.1 C0.2.1 dL_law_331 (lv_at hl 6 rfl) ?_
  refine lv_iconst (v := 4) C0.1 C0.2.1 dL_law_333 (by decide) ?_
  refine lv_iadd C0.1 C0.2.1 dL_law_334 ?_
  obtain ⟨e11, h⟩ := h
  refine va_sld C0.1 C0.2.1 hX9 hbl9 hbA9 hS e11 dL_law_335 ?_
  refine lv_aload_n C0.1 C0.2.1 dL_law_336 rfl (lv_at hl 1 rfl) ?_
  refine lv_iload C0.1 C0.2.1 dL_law_337 (lv_at hl 6 rfl) ?_
  refine lv_iconst (v := 5) C0.1 C0.2.1 dL_law_339 (by decide) ?_
  refine lv_iadd C0.1 C0.2.1 dL_law_340 ?_
  obtain ⟨e12, h⟩ := h
  refine va_sld C0.1 C0.2.1 hX9 hbl9 hbA9 hS e12 dL_law_341 ?_
  obtain ⟨i15, h⟩ := h
  refine c_V C0 hO hS (mX8_link h) i15 (by decide) rfl rfl tb_1455 tb_1456 tb_1457 tb_81 tb_1458 hd_X8_link rfl ⟨⟨by decide, by decide⟩, by show _ + 0 ≤ 603072; omega, by show _ + 0 ≤ 7198826; omega⟩ hl.1 rfl (Nat.le_of_ble_eq_true rfl) dL_law_342 (kI (fun r14 S13 H locs h hO hS => ?_))
  change W _ _ _ _ _ _ _ _ _ _ _ _ (_ + 0) (_ + 0) _ _
  refine lv_istore C0.1 C0.2.1 dL_law_345 hl (by decide) rfl (fun ls hl => ?_)
  refine lv_aload_n C0.1 C0.2.1 dL_law_347 rfl (lv_at hl 4 rfl) ?_
  obtain ⟨i18, h⟩ := h
  refine c_V C0 hO hS (mX8_thrown h) i18 (by decide) rfl rfl tb_1443 tb_1444 tb_1445 tb_81 tb_1446 hd_X8_thrown rfl ⟨⟨by decide, by decide⟩, by show _ + 0 ≤ 603072; omega, by show _ + 0 ≤ 7198826; omega⟩ hl.1 rfl (Nat.le_of_ble_eq_true rfl) dL_law_348 (kI (fun r17 S16 H locs h hO hS => ?_))
  change W _ _ _ _ _ _ _ _ _ _ _ _ (_ + 0) (_ + 0) _ _
  refine lv_iload C0.1 C0.2.1 dL_law_351 (lv_at hl 1 rfl) ?_
  refine lv_icmp_eq (tgt := 358) C0.1 C0.2.1 dL_law_353 (by decide) (fun c19 => ?_) (fun c19 => ?_)
  · replace h := h.1 c19
    refine lv_iload C0.1 C0.2.1 dL_law_358 (lv_at hl 1 rfl) ?_
    refine lv_if_ne (tgt := 375) C0.1 C0.2.1 dL_law_360 (by decide) (fun c20 => ?_) (fun c20 => ?_)
    · replace h := h.1 c20
      exact bL_law_b375 C0 Y hl9 hX9 hbl9 hbA9 hend9 hk28 _ _ _ _ _ _ _ _ _ _ _ h hO hS (lv_sub hl [2, 3, 4, 5, 6, 7] rfl) (by clear h; omega) (by clear h; omega)
    · replace h := h.2 c20
      refine lv_aload_n C0.1 C0.2.1 dL_law_363 rfl (lv_at hl 5 rfl) ?_
      refine lv_iconst (v := 0) C0.1 C0.2.1 dL_law_364 (by decide) ?_
      obtain ⟨i21, h⟩ := h
      obtain ⟨e22, h⟩ := h
      refine r_lald C0 hO i21 e22 dL_law_365 ?_
      refine lv_iload C0.1 C0.2.1 dL_law_366 (lv_at hl 0 rfl) ?_
      refine lv_i2l C0.1 C0.2.1 dL_law_368 rfl ?_
      refine W.lcmp C0.1 C0.2.1 dL_law_369 ?_
      refine lv_if_eq (tgt := 375) C0.1 C0.2.1 dL_law_370 (by decide) (fun c23 => ?_) (fun c23 => ?_)
      · replace h := h.1 c23
        exact bL_law_b375 C0 Y hl9 hX9 hbl9 hbA9 hend9 hk28 _ _ _ _ _ _ _ _ _ _ _ h hO hS (lv_sub hl [2, 3, 4, 5, 6, 7] rfl) (by clear h; omega) (by clear h; omega)
      · replace h := h.2 c23
        refine lv_iconst (v := 0) C0.1 C0.2.1 dL_law_373 (by decide) ?_
        exact h.elim
  · replace h := h.2 c19
    refine lv_iconst (v := 0) C0.1 C0.2.1 dL_law_356 (by decide) ?_
    exact h.elim
def wL_law_b479 (x0 : (Nat → Int32)) (L9 : Nat) (k28 : Hp → Nat → Nat → Nat → Nat → Int32 → Prop) (S : Hp) (v1 : Nat) (v2 : Nat) (v3 : Nat) (v4 : Nat) (v5 : Int32) : Prop := wL_law_b3146 x0 L9 k28 S v1 v2 v3 v4 v5
set_option maxHeartbeats 4000000 in
set_option maxRecDepth 100000 in
theorem bL_law_b479 {p : Program} {l : Launch} {e : Env} {s : State} {m : MethodId} {args : Array Value} {below : List Frame} {meth : Method} {c : Code} {G : Gw} {b9 : Nat} {Q : State → Prop} {x0 : (Nat → Int32)} {L9 : Nat} (C0 : Mx p s m c code 9 args yL_law.cls G) (Y : My meth (some .boolean)) (hl9 : l.stackTraces = false) (hX9 : va_X b9 L9 x0 s s.heap) (hbl9 : b9 < s.heap.size) (hbA9 : ¬ Ab G.b b9) (hend9 : ∀ (pc : Nat) (H : Heap) (locs : List Loc) (ls : Array Slot) (cells slots : Nat), decode code pc = .ok (.ireturn, 1) → va_S (Ab G.b) s.heap H locs → cells ≤ 603072 → slots ≤ 7198826 → W p l e room_1 s m args below meth c H locs cells slots Q (F0 m pc ls [.int 1])) {n9_28 : Nat} {k28 : Hp → Nat → Nat → Nat → Nat → Int32 → Prop} (hk28 : ∀ (S : Hp) (v1 : Nat) (v2 : Nat) (v3 : Nat) (v4 : Nat) (v5 : Int32) (H : Heap) (locs : List Loc) (ls : Array Slot) (cells slots : Nat), k28 S v1 v2 v3 v4 v5 → Ok G S H → va_S (Ab G.b) s.heap H locs → lv_has ls 9 [(0, .ref b9), (1, .ref v1), (2, .ref v2), (3, .ref v3), (4, .ref v4), (5, .int v5)] → cells + (n9_28 * 97 + 97) ≤ 603072 → slots + (n9_28 * 2225 + 2225) ≤ 7198826 → W p l e room_1 s m args below meth c H locs cells slots Q (F0 m 28 ls [])) : ∀ (S : Hp) (v1 : Nat) (v2 : Nat) (v3 : Nat) (v4 : Nat) (v5 : Int32) (H : Heap) (locs : List Loc) (ls : Array Slot) (cells slots : Nat), wL_law_b479 x0 L9 k28 S v1 v2 v3 v4 v5 → Ok G S H → va_S (Ab G.b) s.heap H locs → lv_has ls 9 [(0, .ref b9), (1, .ref v1), (2, .ref v2), (3, .ref v3), (4, .ref v4), (5, .int v5)] → cells + (n9_28 * 97 + 97) ≤ 603072 → slots + (n9_28 * 2225 + 2225) ≤ 7198826 → W p l e room_1 s m args below meth c H locs cells slots Q (F0 m 479 ls []) := by
  intro S v1 v2 v3 v4 v5 H locs ls cells slots h hO hS hl hcc hss
  unfold wL_law_b479 at h
  refine lv_goto (tgt := 3146) C0.1 C0.2.1 dL_law_479 (by decide) ?_
  exact bL_law_b3146 C0 Y hl9 hX9 hbl9 hbA9 hend9 hk28 _ _ _ _ _ _ _ _ _ _ _ h hO hS (lv_sub hl [0, 1, 2, 3, 4, 5] rfl) (by clear h; omega) (by clear h; omega)
def wL_law_b378 (x0 : (Nat → Int32)) (L9 : Nat) (k28 : Hp → Nat → Nat → Nat → Nat → Int32 → Prop) (S : Hp) (v1 : Nat) (v2 : Nat) (v3 : Nat) (v4 : Nat) (v5 : Int32) : Prop := vp_in (v5 + 1) L9 ∧ vp_in (v5 + 2) L9 ∧ vp_in (v5 + 3) L9 ∧ vp_in (v5 + 4) L9 ∧ vp_in (v5 + 5) L9 ∧ wL_planets S v1 (x0 (v5 + 1).toNatClampNeg) (x0 (v5 + 2).toNatClampNeg) (x0 (v5 + 3).toNatClampNeg) (x0 (v5 + 4).toNatClampNeg) (x0 (v5 + 5).toNatClampNeg) v3 (fun S6 r7 => vp_in (v5 + 1) L9 ∧ vp_in (v5 + 2) L9 ∧ vp_in (v5 + 3) L9 ∧ vp_in (v5 + 4) L9 ∧ vp_in (v5 + 5) L9 ∧ isA S6 v2 8 ∧ wX8_planets S6 v2 (x0 (v5 + 1).toNatClampNeg) (x0 (v5 + 2).toNatClampNeg) (x0 (v5 + 3).toNatClampNeg) (x0 (v5 + 4).toNatClampNeg) (x0 (v5 + 5).toNatClampNeg) (fun S13 r14 => isA S13 v2 8 ∧ wX8_thrown S13 v2 (fun S16 r17 => ((r17 = r7 → ((¬ r7 = 0 → wL_law_b479 x0 L9 k28 S16 v1 v2 v3 v4 v5) ∧ (r7 = 0 → isA S16 v3 22 ∧ vp_in 0 (S16.N v3) ∧ (((lg_cmp (S16.AJ v3 ((0 : Int32).toNatClampNeg)) r14.toInt64) = 0 → wL_law_b479 x0 L9 k28 S16 v1 v2 v3 v4 v5) ∧ (¬ ((lg_cmp (S16.AJ v3 ((0 : Int32).toNatClampNeg)) r14.toInt64) = 0) → False))))) ∧ (¬ (r17 = r7) → False)))))
set_option maxHeartbeats 4000000 in
set_option maxRecDepth 100000 in
theorem bL_law_b378 {p : Program} {l : Launch} {e : Env} {s : State} {m : MethodId} {args : Array Value} {below : List Frame} {meth : Method} {c : Code} {G : Gw} {b9 : Nat} {Q : State → Prop} {x0 : (Nat → Int32)} {L9 : Nat} (C0 : Mx p s m c code 9 args yL_law.cls G) (Y : My meth (some .boolean)) (hl9 : l.stackTraces = false) (hX9 : va_X b9 L9 x0 s s.heap) (hbl9 : b9 < s.heap.size) (hbA9 : ¬ Ab G.b b9) (hend9 : ∀ (pc : Nat) (H : Heap) (locs : List Loc) (ls : Array Slot) (cells slots : Nat), decode code pc = .ok (.ireturn, 1) → va_S (Ab G.b) s.heap H locs → cells ≤ 603072 → slots ≤ 7198826 → W p l e room_1 s m args below meth c H locs cells slots Q (F0 m pc ls [.int 1])) {n9_28 : Nat} {k28 : Hp → Nat → Nat → Nat → Nat → Int32 → Prop} (hk28 : ∀ (S : Hp) (v1 : Nat) (v2 : Nat) (v3 : Nat) (v4 : Nat) (v5 : Int32) (H : Heap) (locs : List Loc) (ls : Array Slot) (cells slots : Nat), k28 S v1 v2 v3 v4 v5 → Ok G S H → va_S (Ab G.b) s.heap H locs → lv_has ls 9 [(0, .ref b9), (1, .ref v1), (2, .ref v2), (3, .ref v3), (4, .ref v4), (5, .int v5)] → cells + (n9_28 * 97 + 97) ≤ 603072 → slots + (n9_28 * 2225 + 2225) ≤ 7198826 → W p l e room_1 s m args below meth c H locs cells slots Q (F0 m 28 ls [])) : ∀ (S : Hp) (v1 : Nat) (v2 : Nat) (v3 : Nat) (v4 : Nat) (v5 : Int32) (H : Heap) (locs : List Loc) (ls : Array Slot) (cells slots : Nat), wL_law_b378 x0 L9 k28 S v1 v2 v3 v4 v5 → Ok G S H → va_S (Ab G.b) s.heap H locs → lv_has ls 9 [(0, .ref b9), (1, .ref v1), (2, .ref v2), (3, .ref v3), (4, .ref v4), (5, .int v5)] → cells + (n9_28 * 97 + 194) ≤ 603072 → slots + (n9_28 * 2225 + 4450) ≤ 7198826 → W p l e room_1 s m args below meth c H locs cells slots Q (F0 m 378 ls []) := by
  intro S v1 v2 v3 v4 v5 H locs ls cells slots h hO hS hl hcc hss
  unfold wL_law_b378 at h
  refine lv_aload_n C0.1 C0.2.1 dL_law_378 rfl (lv_at hl 1 rfl) ?_
  refine lv_aload_n C0.1 C0.2.1 dL_law_379 rfl (lv_at hl 0 rfl) ?_
  refine lv_iload C0.1 C0.2.1 dL_law_380 (lv_at hl 5 rfl) ?_
  refine lv_iconst (v := 1) C0.1 C0.2.1 dL_law_382 (by decide) ?_
  refine lv_iadd C0.1 C0.2.1 dL_law_383 ?_
  obtain ⟨e1, h⟩ := h
  refine va_sld C0.1 C0.2.1 hX9 hbl9 hbA9 hS e1 dL_law_384 ?_
  refine lv_aload_n C0.1 C0.2.1 dL_law_385 rfl (lv_at hl 0 rfl) ?_
  refine lv_iload C0.1 C0.2.1 dL_law_386 (lv_at hl 5 rfl) ?_
  refine lv_iconst (v := 2) C0.1 C0.2.1 dL_law_388 (by decide) ?_
  refine lv_iadd C0.1 C0.2.1 dL_law_389 ?_
  obtain ⟨e2, h⟩ := h
  refine va_sld C0.1 C0.2.1 hX9 hbl9 hbA9 hS e2 dL_law_390 ?_
  refine lv_aload_n C0.1 C0.2.1 dL_law_391 rfl (lv_at hl 0 rfl) ?_
  refine lv_iload C0.1 C0.2.1 dL_law_392 (lv_at hl 5 rfl) ?_
  refine lv_iconst (v := 3) C0.1 C0.2.1 dL_law_394 (by decide) ?_
  refine lv_iadd C0.1 C0.2.1 dL_law_395 ?_
  obtain ⟨e3, h⟩ := h
  refine va_sld C0.1 C0.2.1 hX9 hbl9 hbA9 hS e3 dL_law_396 ?_
  refine lv_aload_n C0.1 C0.2.1 dL_law_397 rfl (lv_at hl 0 rfl) ?_
  refine lv_iload C0.1 C0.2.1 dL_law_398 (lv_at hl 5 rfl) ?_
  refine lv_iconst (v := 4) C0.1 C0.2.1 dL_law_400 (by decide) ?_
  refine lv_iadd C0.1 C0.2.1 dL_law_401 ?_
  obtain ⟨e4, h⟩ := h
  refine va_sld C0.1 C0.2.1 hX9 hbl9 hbA9 hS e4 dL_law_402 ?_
  refine lv_aload_n C0.1 C0.2.1 dL_law_403 rfl (lv_at hl 0 rfl) ?_
  refine lv_iload C0.1 C0.2.1 dL_law_404 (lv_at hl 5 rfl) ?_
  refine lv_iconst (v := 5) C0.1 C0.2.1 dL_law_406 (by decide) ?_
  refine lv_iadd C0.1 C0.2.1 dL_law_407 ?_
  obtain ⟨e5, h⟩ := h
  refine va_sld C0.1 C0.2.1 hX9 hbl9 hbA9 hS e5 dL_law_408 ?_
  refine lv_aload_n C0.1 C0.2.1 dL_law_409 rfl (lv_at hl 3 rfl) ?_
  refine c_SW C0 hO hS (mL_planets hl9 h) tb_751 tb_752 tb_73 tb_753 hd_L_planets rfl ⟨⟨by decide, by decide⟩, by show _ + 97 ≤ 603072; omega, by show _ + 2225 ≤ 7198826; omega⟩ hl.1 rfl (Nat.le_of_ble_eq_true rfl) dL_law_410 (kI (fun r7 S6 H locs h hO hS => ?_))
  change W _ _ _ _ _ _ _ _ _ _ _ _ (_ + 97) (_ + 2225) _ _
  refine lv_istore C0.1 C0.2.1 dL_law_413 hl (by decide) rfl (fun ls hl => ?_)
  refine lv_aload_n C0.1 C0.2.1 dL_law_415 rfl (lv_at hl 3 rfl) ?_
  refine lv_aload_n C0.1 C0.2.1 dL_law_416 rfl (lv_at hl 1 rfl) ?_
  refine lv_iload C0.1 C0.2.1 dL_law_417 (lv_at hl 6 rfl) ?_
  refine lv_iconst (v := 1) C0.1 C0.2.1 dL_law_419 (by decide) ?_
  refine lv_iadd C0.1 C0.2.1 dL_law_420 ?_
  obtain ⟨e8, h⟩ := h
  refine va_sld C0.1 C0.2.1 hX9 hbl9 hbA9 hS e8 dL_law_421 ?_
  refine lv_aload_n C0.1 C0.2.1 dL_law_422 rfl (lv_at hl 1 rfl) ?_
  refine lv_iload C0.1 C0.2.1 dL_law_423 (lv_at hl 6 rfl) ?_
  refine lv_iconst (v := 2) C0.1 C0.2.1 dL_law_425 (by decide) ?_
  refine lv_iadd C0.1 C0.2.1 dL_law_426 ?_
  obtain ⟨e9, h⟩ := h
  refine va_sld C0.1 C0.2.1 hX9 hbl9 hbA9 hS e9 dL_law_427 ?_
  refine lv_aload_n C0.1 C0.2.1 dL_law_428 rfl (lv_at hl 1 rfl) ?_
  refine lv_iload C0.1 C0.2.1 dL_law_429 (lv_at hl 6 rfl) ?_
  refine lv_iconst (v := 3) C0.1 C0.2.1 dL_law_431 (by decide) ?_
  refine lv_iadd C0.1 C0.2.1 dL_law_432 ?_
  obtain ⟨e10, h⟩ := h
  refine va_sld C0.1 C0.2.1 hX9 hbl9 hbA9 hS e10 dL_law_433 ?_
  refine lv_aload_n C0.1 C0.2.1 dL_law_434 rfl (lv_at hl 1 rfl) ?_
  refine lv_iload C0.1 C0.2.1 dL_law_435 (lv_at hl 6 rfl) ?_
  refine lv_iconst (v := 4) C0.1 C0.2.1 dL_law_437 (by decide) ?_
  refine lv_iadd C0.1 C0.2.1 dL_law_438 ?_
  obtain ⟨e11, h⟩ := h
  refine va_sld C0.1 C0.2.1 hX9 hbl9 hbA9 hS e11 dL_law_439 ?_
  refine lv_aload_n C0.1 C0.2.1 dL_law_440 rfl (lv_at hl 1 rfl) ?_
  refine lv_iload C0.1 C0.2.1 dL_law_441 (lv_at hl 6 rfl) ?_
  refine lv_iconst (v := 5) C0.1 C0.2.1 dL_law_443 (by decide) ?_
  refine lv_iadd C0.1 C0.2.1 dL_law_444 ?_
  obtain ⟨e12, h⟩ := h
  refine va_sld C0.1 C0.2.1 hX9 hbl9 hbA9 hS e12 dL_law_445 ?_
  obtain ⟨i15, h⟩ := h
  refine c_V C0 hO hS (mX8_planets h) i15 (by decide) rfl rfl tb_1498 tb_1499 tb_1500 tb_81 tb_1501 hd_X8_planets rfl ⟨⟨by decide, by decide⟩, by show _ + 0 ≤ 603072; omega, by show _ + 0 ≤ 7198826; omega⟩ hl.1 rfl (Nat.le_of_ble_eq_true rfl) dL_law_446 (kI (fun r14 S13 H locs h hO hS => ?_))
  change W _ _ _ _ _ _ _ _ _ _ _ _ (_ + 0) (_ + 0) _ _
  refine lv_istore C0.1 C0.2.1 dL_law_449 hl (by decide) rfl (fun ls hl => ?_)
  refine lv_aload_n C0.1 C0.2.1 dL_law_451 rfl (lv_at hl 4 rfl) ?_
  obtain ⟨i18, h⟩ := h
  refine c_V C0 hO hS (mX8_thrown h) i18 (by decide) rfl rfl tb_1443 tb_1444 tb_1445 tb_81 tb_1446 hd_X8_thrown rfl ⟨⟨by decide, by decide⟩, by show _ + 0 ≤ 603072; omega, by show _ + 0 ≤ 7198826; omega⟩ hl.1 rfl (Nat.le_of_ble_eq_true rfl) dL_law_452 (kI (fun r17 S16 H locs h hO hS => ?_))
  change W _ _ _ _ _ _ _ _ _ _ _ _ (_ + 0) (_ + 0) _ _
  refine lv_iload C0.1 C0.2.1 dL_law_455 (lv_at hl 1 rfl) ?_
  refine lv_icmp_eq (tgt := 462) C0.1 C0.2.1 dL_law_457 (by decide) (fun c19 => ?_) (fun c19 => ?_)
  · replace h := h.1 c19
    refine lv_iload C0.1 C0.2.1 dL_law_462 (lv_at hl 1 rfl) ?_
    refine lv_if_ne (tgt := 479) C0.1 C0.2.1 dL_law_464 (by decide) (fun c20 => ?_) (fun c20 => ?_)
    · replace h := h.1 c20
      exact bL_law_b479 C0 Y hl9 hX9 hbl9 hbA9 hend9 hk28 _ _ _ _ _ _ _ _ _ _ _ h hO hS (lv_sub hl [2, 3, 4, 5, 6, 7] rfl) (by clear h; omega) (by clear h; omega)
    · replace h := h.2 c20
      refine lv_aload_n C0.1 C0.2.1 dL_law_467 rfl (lv_at hl 5 rfl) ?_
      refine lv_iconst (v := 0) C0.1 C0.2.1 dL_law_468 (by decide) ?_
      obtain ⟨i21, h⟩ := h
      obtain ⟨e22, h⟩ := h
      refine r_lald C0 hO i21 e22 dL_law_469 ?_
      refine lv_iload C0.1 C0.2.1 dL_law_470 (lv_at hl 0 rfl) ?_
      refine lv_i2l C0.1 C0.2.1 dL_law_472 rfl ?_
      refine W.lcmp C0.1 C0.2.1 dL_law_473 ?_
      refine lv_if_eq (tgt := 479) C0.1 C0.2.1 dL_law_474 (by decide) (fun c23 => ?_) (fun c23 => ?_)
      · replace h := h.1 c23
        exact bL_law_b479 C0 Y hl9 hX9 hbl9 hbA9 hend9 hk28 _ _ _ _ _ _ _ _ _ _ _ h hO hS (lv_sub hl [2, 3, 4, 5, 6, 7] rfl) (by clear h; omega) (by clear h; omega)
      · replace h := h.2 c23
        refine lv_iconst (v := 0) C0.1 C0.2.1 dL_law_477 (by decide) ?_
        exact h.elim
  · replace h := h.2 c19
    refine lv_iconst (v := 0) C0.1 C0.2.1 dL_law_460 (by decide) ?_
    exact h.elim
def wL_law_b570 (x0 : (Nat → Int32)) (L9 : Nat) (k28 : Hp → Nat → Nat → Nat → Nat → Int32 → Prop) (S : Hp) (v1 : Nat) (v2 : Nat) (v3 : Nat) (v4 : Nat) (v5 : Int32) : Prop := wL_law_b3146 x0 L9 k28 S v1 v2 v3 v4 v5
set_option maxHeartbeats 4000000 in
set_option maxRecDepth 100000 in
theorem bL_law_b570 {p : Program} {l : Launch} {e : Env} {s : State} {m : MethodId} {args : Array Value} {below : List Frame} {meth : Method} {c : Code} {G : Gw} {b9 : Nat} {Q : State → Prop} {x0 : (Nat → Int32)} {L9 : Nat} (C0 : Mx p s m c code 9 args yL_law.cls G) (Y : My meth (some .boolean)) (hl9 : l.stackTraces = false) (hX9 : va_X b9 L9 x0 s s.heap) (hbl9 : b9 < s.heap.size) (hbA9 : ¬ Ab G.b b9) (hend9 : ∀ (pc : Nat) (H : Heap) (locs : List Loc) (ls : Array Slot) (cells slots : Nat), decode code pc = .ok (.ireturn, 1) → va_S (Ab G.b) s.heap H locs → cells ≤ 603072 → slots ≤ 7198826 → W p l e room_1 s m args below meth c H locs cells slots Q (F0 m pc ls [.int 1])) {n9_28 : Nat} {k28 : Hp → Nat → Nat → Nat → Nat → Int32 → Prop} (hk28 : ∀ (S : Hp) (v1 : Nat) (v2 : Nat) (v3 : Nat) (v4 : Nat) (v5 : Int32) (H : Heap) (locs : List Loc) (ls : Array Slot) (cells slots : Nat), k28 S v1 v2 v3 v4 v5 → Ok G S H → va_S (Ab G.b) s.heap H locs → lv_has ls 9 [(0, .ref b9), (1, .ref v1), (2, .ref v2), (3, .ref v3), (4, .ref v4), (5, .int v5)] → cells + (n9_28 * 97 + 97) ≤ 603072 → slots + (n9_28 * 2225 + 2225) ≤ 7198826 → W p l e room_1 s m args below meth c H locs cells slots Q (F0 m 28 ls [])) : ∀ (S : Hp) (v1 : Nat) (v2 : Nat) (v3 : Nat) (v4 : Nat) (v5 : Int32) (H : Heap) (locs : List Loc) (ls : Array Slot) (cells slots : Nat), wL_law_b570 x0 L9 k28 S v1 v2 v3 v4 v5 → Ok G S H → va_S (Ab G.b) s.heap H locs → lv_has ls 9 [(0, .ref b9), (1, .ref v1), (2, .ref v2), (3, .ref v3), (4, .ref v4), (5, .int v5)] → cells + (n9_28 * 97 + 97) ≤ 603072 → slots + (n9_28 * 2225 + 2225) ≤ 7198826 → W p l e room_1 s m args below meth c H locs cells slots Q (F0 m 570 ls []) := by
  intro S v1 v2 v3 v4 v5 H locs ls cells slots h hO hS hl hcc hss
  unfold wL_law_b570 at h
  refine lv_goto (tgt := 3146) C0.1 C0.2.1 dL_law_570 (by decide) ?_
  exact bL_law_b3146 C0 Y hl9 hX9 hbl9 hbA9 hend9 hk28 _ _ _ _ _ _ _ _ _ _ _ h hO hS (lv_sub hl [0, 1, 2, 3, 4, 5] rfl) (by clear h; omega) (by clear h; omega)
def wL_law_b564 (x0 : (Nat → Int32)) (L9 : Nat) (k28 : Hp → Nat → Nat → Nat → Nat → Int32 → Prop) (S : Hp) (v1 : Nat) (v2 : Nat) (v3 : Nat) (v4 : Nat) (v5 : Int32) (z0 : Int64) (z1 : Int64) : Prop := (((lg_cmp z0 z1) = 0 → wL_law_b570 x0 L9 k28 S v1 v2 v3 v4 v5) ∧ (¬ ((lg_cmp z0 z1) = 0) → False))
set_option maxHeartbeats 4000000 in
set_option maxRecDepth 100000 in
theorem bL_law_b564 {p : Program} {l : Launch} {e : Env} {s : State} {m : MethodId} {args : Array Value} {below : List Frame} {meth : Method} {c : Code} {G : Gw} {b9 : Nat} {Q : State → Prop} {x0 : (Nat → Int32)} {L9 : Nat} (C0 : Mx p s m c code 9 args yL_law.cls G) (Y : My meth (some .boolean)) (hl9 : l.stackTraces = false) (hX9 : va_X b9 L9 x0 s s.heap) (hbl9 : b9 < s.heap.size) (hbA9 : ¬ Ab G.b b9) (hend9 : ∀ (pc : Nat) (H : Heap) (locs : List Loc) (ls : Array Slot) (cells slots : Nat), decode code pc = .ok (.ireturn, 1) → va_S (Ab G.b) s.heap H locs → cells ≤ 603072 → slots ≤ 7198826 → W p l e room_1 s m args below meth c H locs cells slots Q (F0 m pc ls [.int 1])) {n9_28 : Nat} {k28 : Hp → Nat → Nat → Nat → Nat → Int32 → Prop} (hk28 : ∀ (S : Hp) (v1 : Nat) (v2 : Nat) (v3 : Nat) (v4 : Nat) (v5 : Int32) (H : Heap) (locs : List Loc) (ls : Array Slot) (cells slots : Nat), k28 S v1 v2 v3 v4 v5 → Ok G S H → va_S (Ab G.b) s.heap H locs → lv_has ls 9 [(0, .ref b9), (1, .ref v1), (2, .ref v2), (3, .ref v3), (4, .ref v4), (5, .int v5)] → cells + (n9_28 * 97 + 97) ≤ 603072 → slots + (n9_28 * 2225 + 2225) ≤ 7198826 → W p l e room_1 s m args below meth c H locs cells slots Q (F0 m 28 ls [])) : ∀ (S : Hp) (v1 : Nat) (v2 : Nat) (v3 : Nat) (v4 : Nat) (v5 : Int32) (z0 : Int64) (z1 : Int64) (H : Heap) (locs : List Loc) (ls : Array Slot) (cells slots : Nat), wL_law_b564 x0 L9 k28 S v1 v2 v3 v4 v5 z0 z1 → Ok G S H → va_S (Ab G.b) s.heap H locs → lv_has ls 9 [(0, .ref b9), (1, .ref v1), (2, .ref v2), (3, .ref v3), (4, .ref v4), (5, .int v5)] → cells + (n9_28 * 97 + 97) ≤ 603072 → slots + (n9_28 * 2225 + 2225) ≤ 7198826 → W p l e room_1 s m args below meth c H locs cells slots Q (F0 m 564 ls [.long z1, .long z0]) := by
  intro S v1 v2 v3 v4 v5 z0 z1 H locs ls cells slots h hO hS hl hcc hss
  unfold wL_law_b564 at h
  refine W.lcmp C0.1 C0.2.1 dL_law_564 ?_
  refine lv_if_eq (tgt := 570) C0.1 C0.2.1 dL_law_565 (by decide) (fun c1 => ?_) (fun c1 => ?_)
  · replace h := h.1 c1
    exact bL_law_b570 C0 Y hl9 hX9 hbl9 hbA9 hend9 hk28 _ _ _ _ _ _ _ _ _ _ _ h hO hS (lv_sub hl [0, 1, 2, 3, 4, 5] rfl) (by clear h; omega) (by clear h; omega)
  · replace h := h.2 c1
    refine lv_iconst (v := 0) C0.1 C0.2.1 dL_law_568 (by decide) ?_
    exact h.elim
def wL_law_b530 (x0 : (Nat → Int32)) (L9 : Nat) (k28 : Hp → Nat → Nat → Nat → Nat → Int32 → Prop) (S : Hp) (v1 : Nat) (v2 : Nat) (v3 : Nat) (v4 : Nat) (v5 : Int32) (v6 : Int32) (z0 : Nat) (z1 : Int32) (z2 : Int32) : Prop := isA S z0 8 ∧ wX8_engage S z0 z1 z2 (fun S1 r2 => isA S1 v2 8 ∧ wX8_thrown S1 v2 (fun S4 r5 => ((r5 = v6 → ((¬ v6 = 0 → wL_law_b570 x0 L9 k28 S4 v1 v2 v3 v4 v5) ∧ (v6 = 0 → isA S4 v3 22 ∧ vp_in 0 (S4.N v3) ∧ ((r2 = 0 → wL_law_b564 x0 L9 k28 S4 v1 v2 v3 v4 v5 (S4.AJ v3 ((0 : Int32).toNatClampNeg)) 0) ∧ (¬ (r2 = 0) → wL_law_b564 x0 L9 k28 S4 v1 v2 v3 v4 v5 (S4.AJ v3 ((0 : Int32).toNatClampNeg)) 1))))) ∧ (¬ (r5 = v6) → False))))
set_option maxHeartbeats 4000000 in
set_option maxRecDepth 100000 in
theorem bL_law_b530 {p : Program} {l : Launch} {e : Env} {s : State} {m : MethodId} {args : Array Value} {below : List Frame} {meth : Method} {c : Code} {G : Gw} {b9 : Nat} {Q : State → Prop} {x0 : (Nat → Int32)} {L9 : Nat} (C0 : Mx p s m c code 9 args yL_law.cls G) (Y : My meth (some .boolean)) (hl9 : l.stackTraces = false) (hX9 : va_X b9 L9 x0 s s.heap) (hbl9 : b9 < s.heap.size) (hbA9 : ¬ Ab G.b b9) (hend9 : ∀ (pc : Nat) (H : Heap) (locs : List Loc) (ls : Array Slot) (cells slots : Nat), decode code pc = .ok (.ireturn, 1) → va_S (Ab G.b) s.heap H locs → cells ≤ 603072 → slots ≤ 7198826 → W p l e room_1 s m args below meth c H locs cells slots Q (F0 m pc ls [.int 1])) {n9_28 : Nat} {k28 : Hp → Nat → Nat → Nat → Nat → Int32 → Prop} (hk28 : ∀ (S : Hp) (v1 : Nat) (v2 : Nat) (v3 : Nat) (v4 : Nat) (v5 : Int32) (H : Heap) (locs : List Loc) (ls : Array Slot) (cells slots : Nat), k28 S v1 v2 v3 v4 v5 → Ok G S H → va_S (Ab G.b) s.heap H locs → lv_has ls 9 [(0, .ref b9), (1, .ref v1), (2, .ref v2), (3, .ref v3), (4, .ref v4), (5, .int v5)] → cells + (n9_28 * 97 + 97) ≤ 603072 → slots + (n9_28 * 2225 + 2225) ≤ 7198826 → W p l e room_1 s m args below meth c H locs cells slots Q (F0 m 28 ls [])) : ∀ (S : Hp) (v1 : Nat) (v2 : Nat) (v3 : Nat) (v4 : Nat) (v5 : Int32) (v6 : Int32) (z0 : Nat) (z1 : Int32) (z2 : Int32) (H : Heap) (locs : List Loc) (ls : Array Slot) (cells slots : Nat), wL_law_b530 x0 L9 k28 S v1 v2 v3 v4 v5 v6 z0 z1 z2 → Ok G S H → va_S (Ab G.b) s.heap H locs → lv_has ls 9 [(0, .ref b9), (1, .ref v1), (2, .ref v2), (3, .ref v3), (4, .ref v4), (5, .int v5), (6, .int v6)] → cells + (n9_28 * 97 + 97) ≤ 603072 → slots + (n9_28 * 2225 + 2225) ≤ 7198826 → W p l e room_1 s m args below meth c H locs cells slots Q (F0 m 530 ls [.int z2, .int z1, .ref z0]) := by
  intro S v1 v2 v3 v4 v5 v6 z0 z1 z2 H locs ls cells slots h hO hS hl hcc hss
  unfold wL_law_b530 at h
  obtain ⟨i3, h⟩ := h
  refine c_V C0 hO hS (mX8_engage h) i3 (by decide) rfl rfl tb_1502 tb_1503 tb_1504 tb_81 tb_1505 hd_X8_engage rfl ⟨⟨by decide, by decide⟩, by show _ + 0 ≤ 603072; omega, by show _ + 0 ≤ 7198826; omega⟩ hl.1 rfl (Nat.le_of_ble_eq_true rfl) dL_law_530 (kI (fun r2 S1 H locs h hO hS => ?_))
  change W _ _ _ _ _ _ _ _ _ _ _ _ (_ + 0) (_ + 0) _ _
  refine lv_istore C0.1 C0.2.1 dL_law_533 hl (by decide) rfl (fun ls hl => ?_)
  refine lv_aload_n C0.1 C0.2.1 dL_law_535 rfl (lv_at hl 3 rfl) ?_
  obtain ⟨i6, h⟩ := h
  refine c_V C0 hO hS (mX8_thrown h) i6 (by decide) rfl rfl tb_1443 tb_1444 tb_1445 tb_81 tb_1446 hd_X8_thrown rfl ⟨⟨by decide, by decide⟩, by show _ + 0 ≤ 603072; omega, by show _ + 0 ≤ 7198826; omega⟩ hl.1 rfl (Nat.le_of_ble_eq_true rfl) dL_law_536 (kI (fun r5 S4 H locs h hO hS => ?_))
  change W _ _ _ _ _ _ _ _ _ _ _ _ (_ + 0) (_ + 0) _ _
  refine lv_iload C0.1 C0.2.1 dL_law_539 (lv_at hl 7 rfl) ?_
  refine lv_icmp_eq (tgt := 546) C0.1 C0.2.1 dL_law_541 (by decide) (fun c7 => ?_) (fun c7 => ?_)
  · replace h := h.1 c7
    refine lv_iload C0.1 C0.2.1 dL_law_546 (lv_at hl 7 rfl) ?_
    refine lv_if_ne (tgt := 570) C0.1 C0.2.1 dL_law_548 (by decide) (fun c8 => ?_) (fun c8 => ?_)
    · replace h := h.1 c8
      exact bL_law_b570 C0 Y hl9 hX9 hbl9 hbA9 hend9 hk28 _ _ _ _ _ _ _ _ _ _ _ h hO hS (lv_sub hl [1, 2, 3, 4, 5, 6] rfl) (by clear h; omega) (by clear h; omega)
    · replace h := h.2 c8
      refine lv_aload_n C0.1 C0.2.1 dL_law_551 rfl (lv_at hl 4 rfl) ?_
      refine lv_iconst (v := 0) C0.1 C0.2.1 dL_law_552 (by decide) ?_
      obtain ⟨i9, h⟩ := h
      obtain ⟨e10, h⟩ := h
      refine r_lald C0 hO i9 e10 dL_law_553 ?_
      refine lv_iload C0.1 C0.2.1 dL_law_554 (lv_at hl 0 rfl) ?_
      refine lv_if_eq (tgt := 563) C0.1 C0.2.1 dL_law_556 (by decide) (fun c11 => ?_) (fun c11 => ?_)
      · replace h := h.1 c11
        refine lv_lconst (v := 0) C0.1 C0.2.1 dL_law_563 (by decide) ?_
        exact bL_law_b564 C0 Y hl9 hX9 hbl9 hbA9 hend9 hk28 _ _ _ _ _ _ _ _ _ _ _ _ _ h hO hS (lv_sub hl [1, 2, 3, 4, 5, 6] rfl) (by clear h; omega) (by clear h; omega)
      · replace h := h.2 c11
        refine lv_lconst (v := 1) C0.1 C0.2.1 dL_law_559 (by decide) ?_
        refine lv_goto (tgt := 564) C0.1 C0.2.1 dL_law_560 (by decide) ?_
        exact bL_law_b564 C0 Y hl9 hX9 hbl9 hbA9 hend9 hk28 _ _ _ _ _ _ _ _ _ _ _ _ _ h hO hS (lv_sub hl [1, 2, 3, 4, 5, 6] rfl) (by clear h; omega) (by clear h; omega)
  · replace h := h.2 c7
    refine lv_iconst (v := 0) C0.1 C0.2.1 dL_law_544 (by decide) ?_
    exact h.elim
def wL_law_b503 (x0 : (Nat → Int32)) (L9 : Nat) (k28 : Hp → Nat → Nat → Nat → Nat → Int32 → Prop) (S : Hp) (v1 : Nat) (v2 : Nat) (v3 : Nat) (v4 : Nat) (v5 : Int32) (z0 : Nat) (z1 : Int32) (z2 : Int32) : Prop := wL_engage S z0 z1 z2 v3 (fun S1 r2 => vp_in (v5 + 1) L9 ∧ vp_in (v5 + 2) L9 ∧ (((x0 (v5 + 2).toNatClampNeg) = 0 → wL_law_b530 x0 L9 k28 S1 v1 v2 v3 v4 v5 r2 v2 (x0 (v5 + 1).toNatClampNeg) 0) ∧ (¬ ((x0 (v5 + 2).toNatClampNeg) = 0) → wL_law_b530 x0 L9 k28 S1 v1 v2 v3 v4 v5 r2 v2 (x0 (v5 + 1).toNatClampNeg) 1)))
set_option maxHeartbeats 4000000 in
set_option maxRecDepth 100000 in
theorem bL_law_b503 {p : Program} {l : Launch} {e : Env} {s : State} {m : MethodId} {args : Array Value} {below : List Frame} {meth : Method} {c : Code} {G : Gw} {b9 : Nat} {Q : State → Prop} {x0 : (Nat → Int32)} {L9 : Nat} (C0 : Mx p s m c code 9 args yL_law.cls G) (Y : My meth (some .boolean)) (hl9 : l.stackTraces = false) (hX9 : va_X b9 L9 x0 s s.heap) (hbl9 : b9 < s.heap.size) (hbA9 : ¬ Ab G.b b9) (hend9 : ∀ (pc : Nat) (H : Heap) (locs : List Loc) (ls : Array Slot) (cells slots : Nat), decode code pc = .ok (.ireturn, 1) → va_S (Ab G.b) s.heap H locs → cells ≤ 603072 → slots ≤ 7198826 → W p l e room_1 s m args below meth c H locs cells slots Q (F0 m pc ls [.int 1])) {n9_28 : Nat} {k28 : Hp → Nat → Nat → Nat → Nat → Int32 → Prop} (hk28 : ∀ (S : Hp) (v1 : Nat) (v2 : Nat) (v3 : Nat) (v4 : Nat) (v5 : Int32) (H : Heap) (locs : List Loc) (ls : Array Slot) (cells slots : Nat), k28 S v1 v2 v3 v4 v5 → Ok G S H → va_S (Ab G.b) s.heap H locs → lv_has ls 9 [(0, .ref b9), (1, .ref v1), (2, .ref v2), (3, .ref v3), (4, .ref v4), (5, .int v5)] → cells + (n9_28 * 97 + 97) ≤ 603072 → slots + (n9_28 * 2225 + 2225) ≤ 7198826 → W p l e room_1 s m args below meth c H locs cells slots Q (F0 m 28 ls [])) : ∀ (S : Hp) (v1 : Nat) (v2 : Nat) (v3 : Nat) (v4 : Nat) (v5 : Int32) (z0 : Nat) (z1 : Int32) (z2 : Int32) (H : Heap) (locs : List Loc) (ls : Array Slot) (cells slots : Nat), wL_law_b503 x0 L9 k28 S v1 v2 v3 v4 v5 z0 z1 z2 → Ok G S H → va_S (Ab G.b) s.heap H locs → lv_has ls 9 [(0, .ref b9), (1, .ref v1), (2, .ref v2), (3, .ref v3), (4, .ref v4), (5, .int v5)] → cells + (n9_28 * 97 + 99) ≤ 603072 → slots + (n9_28 * 2225 + 2237) ≤ 7198826 → W p l e room_1 s m args below meth c H locs cells slots Q (F0 m 503 ls [.int z2, .int z1, .ref z0]) := by
  intro S v1 v2 v3 v4 v5 z0 z1 z2 H locs ls cells slots h hO hS hl hcc hss
  unfold wL_law_b503 at h
  refine lv_aload_n C0.1 C0.2.1 dL_law_503 rfl (lv_at hl 3 rfl) ?_
  refine c_SW C0 hO hS (mL_engage hl9 h) tb_763 tb_764 tb_73 tb_765 hd_L_engage rfl ⟨⟨by decide, by decide⟩, by show _ + 2 ≤ 603072; omega, by show _ + 12 ≤ 7198826; omega⟩ hl.1 rfl (Nat.le_of_ble_eq_true rfl) dL_law_504 (kI (fun r2 S1 H locs h hO hS => ?_))
  change W _ _ _ _ _ _ _ _ _ _ _ _ (_ + 2) (_ + 12) _ _
  refine lv_istore C0.1 C0.2.1 dL_law_507 hl (by decide) rfl (fun ls hl => ?_)
  refine lv_aload_n C0.1 C0.2.1 dL_law_509 rfl (lv_at hl 3 rfl) ?_
  refine lv_aload_n C0.1 C0.2.1 dL_law_510 rfl (lv_at hl 1 rfl) ?_
  refine lv_iload C0.1 C0.2.1 dL_law_511 (lv_at hl 6 rfl) ?_
  refine lv_iconst (v := 1) C0.1 C0.2.1 dL_law_513 (by decide) ?_
  refine lv_iadd C0.1 C0.2.1 dL_law_514 ?_
  obtain ⟨e3, h⟩ := h
  refine va_sld C0.1 C0.2.1 hX9 hbl9 hbA9 hS e3 dL_law_515 ?_
  refine lv_aload_n C0.1 C0.2.1 dL_law_516 rfl (lv_at hl 1 rfl) ?_
  refine lv_iload C0.1 C0.2.1 dL_law_517 (lv_at hl 6 rfl) ?_
  refine lv_iconst (v := 2) C0.1 C0.2.1 dL_law_519 (by decide) ?_
  refine lv_iadd C0.1 C0.2.1 dL_law_520 ?_
  obtain ⟨e4, h⟩ := h
  refine va_sld C0.1 C0.2.1 hX9 hbl9 hbA9 hS e4 dL_law_521 ?_
  refine lv_if_eq (tgt := 529) C0.1 C0.2.1 dL_law_522 (by decide) (fun c5 => ?_) (fun c5 => ?_)
  · replace h := h.1 c5
    refine lv_iconst (v := 0) C0.1 C0.2.1 dL_law_529 (by decide) ?_
    exact bL_law_b530 C0 Y hl9 hX9 hbl9 hbA9 hend9 hk28 _ _ _ _ _ _ _ _ _ _ _ _ _ _ _ h hO hS (lv_sub hl [1, 2, 3, 4, 5, 6, 0] rfl) (by clear h; omega) (by clear h; omega)
  · replace h := h.2 c5
    refine lv_iconst (v := 1) C0.1 C0.2.1 dL_law_525 (by decide) ?_
    refine lv_goto (tgt := 530) C0.1 C0.2.1 dL_law_526 (by decide) ?_
    exact bL_law_b530 C0 Y hl9 hX9 hbl9 hbA9 hend9 hk28 _ _ _ _ _ _ _ _ _ _ _ _ _ _ _ h hO hS (lv_sub hl [1, 2, 3, 4, 5, 6, 0] rfl) (by clear h; omega) (by clear h; omega)
def wL_law_b482 (x0 : (Nat → Int32)) (L9 : Nat) (k28 : Hp → Nat → Nat → Nat → Nat → Int32 → Prop) (S : Hp) (v1 : Nat) (v2 : Nat) (v3 : Nat) (v4 : Nat) (v5 : Int32) : Prop := vp_in (v5 + 1) L9 ∧ vp_in (v5 + 2) L9 ∧ (((x0 (v5 + 2).toNatClampNeg) = 0 → wL_law_b503 x0 L9 k28 S v1 v2 v3 v4 v5 v1 (x0 (v5 + 1).toNatClampNeg) 0) ∧ (¬ ((x0 (v5 + 2).toNatClampNeg) = 0) → wL_law_b503 x0 L9 k28 S v1 v2 v3 v4 v5 v1 (x0 (v5 + 1).toNatClampNeg) 1))
set_option maxHeartbeats 4000000 in
set_option maxRecDepth 100000 in
theorem bL_law_b482 {p : Program} {l : Launch} {e : Env} {s : State} {m : MethodId} {args : Array Value} {below : List Frame} {meth : Method} {c : Code} {G : Gw} {b9 : Nat} {Q : State → Prop} {x0 : (Nat → Int32)} {L9 : Nat} (C0 : Mx p s m c code 9 args yL_law.cls G) (Y : My meth (some .boolean)) (hl9 : l.stackTraces = false) (hX9 : va_X b9 L9 x0 s s.heap) (hbl9 : b9 < s.heap.size) (hbA9 : ¬ Ab G.b b9) (hend9 : ∀ (pc : Nat) (H : Heap) (locs : List Loc) (ls : Array Slot) (cells slots : Nat), decode code pc = .ok (.ireturn, 1) → va_S (Ab G.b) s.heap H locs → cells ≤ 603072 → slots ≤ 7198826 → W p l e room_1 s m args below meth c H locs cells slots Q (F0 m pc ls [.int 1])) {n9_28 : Nat} {k28 : Hp → Nat → Nat → Nat → Nat → Int32 → Prop} (hk28 : ∀ (S : Hp) (v1 : Nat) (v2 : Nat) (v3 : Nat) (v4 : Nat) (v5 : Int32) (H : Heap) (locs : List Loc) (ls : Array Slot) (cells slots : Nat), k28 S v1 v2 v3 v4 v5 → Ok G S H → va_S (Ab G.b) s.heap H locs → lv_has ls 9 [(0, .ref b9), (1, .ref v1), (2, .ref v2), (3, .ref v3), (4, .ref v4), (5, .int v5)] → cells + (n9_28 * 97 + 97) ≤ 603072 → slots + (n9_28 * 2225 + 2225) ≤ 7198826 → W p l e room_1 s m args below meth c H locs cells slots Q (F0 m 28 ls [])) : ∀ (S : Hp) (v1 : Nat) (v2 : Nat) (v3 : Nat) (v4 : Nat) (v5 : Int32) (H : Heap) (locs : List Loc) (ls : Array Slot) (cells slots : Nat), wL_law_b482 x0 L9 k28 S v1 v2 v3 v4 v5 → Ok G S H → va_S (Ab G.b) s.heap H locs → lv_has ls 9 [(0, .ref b9), (1, .ref v1), (2, .ref v2), (3, .ref v3), (4, .ref v4), (5, .int v5)] → cells + (n9_28 * 97 + 99) ≤ 603072 → slots + (n9_28 * 2225 + 2237) ≤ 7198826 → W p l e room_1 s m args below meth c H locs cells slots Q (F0 m 482 ls []) := by
  intro S v1 v2 v3 v4 v5 H locs ls cells slots h hO hS hl hcc hss
  unfold wL_law_b482 at h
  refine lv_aload_n C0.1 C0.2.1 dL_law_482 rfl (lv_at hl 1 rfl) ?_
  refine lv_aload_n C0.1 C0.2.1 dL_law_483 rfl (lv_at hl 0 rfl) ?_
  refine lv_iload C0.1 C0.2.1 dL_law_484 (lv_at hl 5 rfl) ?_
  refine lv_iconst (v := 1) C0.1 C0.2.1 dL_law_486 (by decide) ?_
  refine lv_iadd C0.1 C0.2.1 dL_law_487 ?_
  obtain ⟨e1, h⟩ := h
  refine va_sld C0.1 C0.2.1 hX9 hbl9 hbA9 hS e1 dL_law_488 ?_
  refine lv_aload_n C0.1 C0.2.1 dL_law_489 rfl (lv_at hl 0 rfl) ?_
  refine lv_iload C0.1 C0.2.1 dL_law_490 (lv_at hl 5 rfl) ?_
  refine lv_iconst (v := 2) C0.1 C0.2.1 dL_law_492 (by decide) ?_
  refine lv_iadd C0.1 C0.2.1 dL_law_493 ?_
  obtain ⟨e2, h⟩ := h
  refine va_sld C0.1 C0.2.1 hX9 hbl9 hbA9 hS e2 dL_law_494 ?_
  refine lv_if_eq (tgt := 502) C0.1 C0.2.1 dL_law_495 (by decide) (fun c3 => ?_) (fun c3 => ?_)
  · replace h := h.1 c3
    refine lv_iconst (v := 0) C0.1 C0.2.1 dL_law_502 (by decide) ?_
    exact bL_law_b503 C0 Y hl9 hX9 hbl9 hbA9 hend9 hk28 _ _ _ _ _ _ _ _ _ _ _ _ _ _ h hO hS (lv_sub hl [0, 1, 2, 3, 4, 5] rfl) (by clear h; omega) (by clear h; omega)
  · replace h := h.2 c3
    refine lv_iconst (v := 1) C0.1 C0.2.1 dL_law_498 (by decide) ?_
    refine lv_goto (tgt := 503) C0.1 C0.2.1 dL_law_499 (by decide) ?_
    exact bL_law_b503 C0 Y hl9 hX9 hbl9 hbA9 hend9 hk28 _ _ _ _ _ _ _ _ _ _ _ _ _ _ h hO hS (lv_sub hl [0, 1, 2, 3, 4, 5] rfl) (by clear h; omega) (by clear h; omega)
def wL_law_b638 (x0 : (Nat → Int32)) (L9 : Nat) (k28 : Hp → Nat → Nat → Nat → Nat → Int32 → Prop) (S : Hp) (v1 : Nat) (v2 : Nat) (v3 : Nat) (v4 : Nat) (v5 : Int32) : Prop := wL_law_b3146 x0 L9 k28 S v1 v2 v3 v4 v5
set_option maxHeartbeats 4000000 in
set_option maxRecDepth 100000 in
theorem bL_law_b638 {p : Program} {l : Launch} {e : Env} {s : State} {m : MethodId} {args : Array Value} {below : List Frame} {meth : Method} {c : Code} {G : Gw} {b9 : Nat} {Q : State → Prop} {x0 : (Nat → Int32)} {L9 : Nat} (C0 : Mx p s m c code 9 args yL_law.cls G) (Y : My meth (some .boolean)) (hl9 : l.stackTraces = false) (hX9 : va_X b9 L9 x0 s s.heap) (hbl9 : b9 < s.heap.size) (hbA9 : ¬ Ab G.b b9) (hend9 : ∀ (pc : Nat) (H : Heap) (locs : List Loc) (ls : Array Slot) (cells slots : Nat), decode code pc = .ok (.ireturn, 1) → va_S (Ab G.b) s.heap H locs → cells ≤ 603072 → slots ≤ 7198826 → W p l e room_1 s m args below meth c H locs cells slots Q (F0 m pc ls [.int 1])) {n9_28 : Nat} {k28 : Hp → Nat → Nat → Nat → Nat → Int32 → Prop} (hk28 : ∀ (S : Hp) (v1 : Nat) (v2 : Nat) (v3 : Nat) (v4 : Nat) (v5 : Int32) (H : Heap) (locs : List Loc) (ls : Array Slot) (cells slots : Nat), k28 S v1 v2 v3 v4 v5 → Ok G S H → va_S (Ab G.b) s.heap H locs → lv_has ls 9 [(0, .ref b9), (1, .ref v1), (2, .ref v2), (3, .ref v3), (4, .ref v4), (5, .int v5)] → cells + (n9_28 * 97 + 97) ≤ 603072 → slots + (n9_28 * 2225 + 2225) ≤ 7198826 → W p l e room_1 s m args below meth c H locs cells slots Q (F0 m 28 ls [])) : ∀ (S : Hp) (v1 : Nat) (v2 : Nat) (v3 : Nat) (v4 : Nat) (v5 : Int32) (H : Heap) (locs : List Loc) (ls : Array Slot) (cells slots : Nat), wL_law_b638 x0 L9 k28 S v1 v2 v3 v4 v5 → Ok G S H → va_S (Ab G.b) s.heap H locs → lv_has ls 9 [(0, .ref b9), (1, .ref v1), (2, .ref v2), (3, .ref v3), (4, .ref v4), (5, .int v5)] → cells + (n9_28 * 97 + 97) ≤ 603072 → slots + (n9_28 * 2225 + 2225) ≤ 7198826 → W p l e room_1 s m args below meth c H locs cells slots Q (F0 m 638 ls []) := by
  intro S v1 v2 v3 v4 v5 H locs ls cells slots h hO hS hl hcc hss
  unfold wL_law_b638 at h
  refine lv_goto (tgt := 3146) C0.1 C0.2.1 dL_law_638 (by decide) ?_
  exact bL_law_b3146 C0 Y hl9 hX9 hbl9 hbA9 hend9 hk28 _ _ _ _ _ _ _ _ _ _ _ h hO hS (lv_sub hl [0, 1, 2, 3, 4, 5] rfl) (by clear h; omega) (by clear h; omega)
def wL_law_b573 (x0 : (Nat → Int32)) (L9 : Nat) (k28 : Hp → Nat → Nat → Nat → Nat → Int32 → Prop) (S : Hp) (v1 : Nat) (v2 : Nat) (v3 : Nat) (v4 : Nat) (v5 : Int32) : Prop := vp_in (v5 + 1) L9 ∧ vp_in (v5 + 2) L9 ∧ wL_life S v1 (x0 (v5 + 1).toNatClampNeg) (x0 (v5 + 2).toNatClampNeg) v3 (fun S3 r4 => vp_in (v5 + 1) L9 ∧ vp_in (v5 + 2) L9 ∧ isA S3 v2 8 ∧ wX8_life S3 v2 (x0 (v5 + 1).toNatClampNeg) (x0 (v5 + 2).toNatClampNeg) (fun S7 r8 => isA S7 v2 8 ∧ wX8_thrown S7 v2 (fun S10 r11 => ((r11 = r4 → ((¬ r4 = 0 → wL_law_b638 x0 L9 k28 S10 v1 v2 v3 v4 v5) ∧ (r4 = 0 → isA S10 v3 22 ∧ vp_in 0 (S10.N v3) ∧ (((lg_cmp (S10.AJ v3 ((0 : Int32).toNatClampNeg)) r8.toInt64) = 0 → wL_law_b638 x0 L9 k28 S10 v1 v2 v3 v4 v5) ∧ (¬ ((lg_cmp (S10.AJ v3 ((0 : Int32).toNatClampNeg)) r8.toInt64) = 0) → False))))) ∧ (¬ (r11 = r4) → False)))))
set_option maxHeartbeats 4000000 in
set_option maxRecDepth 100000 in
theorem bL_law_b573 {p : Program} {l : Launch} {e : Env} {s : State} {m : MethodId} {args : Array Value} {below : List Frame} {meth : Method} {c : Code} {G : Gw} {b9 : Nat} {Q : State → Prop} {x0 : (Nat → Int32)} {L9 : Nat} (C0 : Mx p s m c code 9 args yL_law.cls G) (Y : My meth (some .boolean)) (hl9 : l.stackTraces = false) (hX9 : va_X b9 L9 x0 s s.heap) (hbl9 : b9 < s.heap.size) (hbA9 : ¬ Ab G.b b9) (hend9 : ∀ (pc : Nat) (H : Heap) (locs : List Loc) (ls : Array Slot) (cells slots : Nat), decode code pc = .ok (.ireturn, 1) → va_S (Ab G.b) s.heap H locs → cells ≤ 603072 → slots ≤ 7198826 → W p l e room_1 s m args below meth c H locs cells slots Q (F0 m pc ls [.int 1])) {n9_28 : Nat} {k28 : Hp → Nat → Nat → Nat → Nat → Int32 → Prop} (hk28 : ∀ (S : Hp) (v1 : Nat) (v2 : Nat) (v3 : Nat) (v4 : Nat) (v5 : Int32) (H : Heap) (locs : List Loc) (ls : Array Slot) (cells slots : Nat), k28 S v1 v2 v3 v4 v5 → Ok G S H → va_S (Ab G.b) s.heap H locs → lv_has ls 9 [(0, .ref b9), (1, .ref v1), (2, .ref v2), (3, .ref v3), (4, .ref v4), (5, .int v5)] → cells + (n9_28 * 97 + 97) ≤ 603072 → slots + (n9_28 * 2225 + 2225) ≤ 7198826 → W p l e room_1 s m args below meth c H locs cells slots Q (F0 m 28 ls [])) : ∀ (S : Hp) (v1 : Nat) (v2 : Nat) (v3 : Nat) (v4 : Nat) (v5 : Int32) (H : Heap) (locs : List Loc) (ls : Array Slot) (cells slots : Nat), wL_law_b573 x0 L9 k28 S v1 v2 v3 v4 v5 → Ok G S H → va_S (Ab G.b) s.heap H locs → lv_has ls 9 [(0, .ref b9), (1, .ref v1), (2, .ref v2), (3, .ref v3), (4, .ref v4), (5, .int v5)] → cells + (n9_28 * 97 + 99) ≤ 603072 → slots + (n9_28 * 2225 + 2237) ≤ 7198826 → W p l e room_1 s m args below meth c H locs cells slots Q (F0 m 573 ls []) := by
  intro S v1 v2 v3 v4 v5 H locs ls cells slots h hO hS hl hcc hss
  unfold wL_law_b573 at h
  refine lv_aload_n C0.1 C0.2.1 dL_law_573 rfl (lv_at hl 1 rfl) ?_
  refine lv_aload_n C0.1 C0.2.1 dL_law_574 rfl (lv_at hl 0 rfl) ?_
  refine lv_iload C0.1 C0.2.1 dL_law_575 (lv_at hl 5 rfl) ?_
  refine lv_iconst (v := 1) C0.1 C0.2.1 dL_law_577 (by decide) ?_
  refine lv_iadd C0.1 C0.2.1 dL_law_578 ?_
  obtain ⟨e1, h⟩ := h
  refine va_sld C0.1 C0.2.1 hX9 hbl9 hbA9 hS e1 dL_law_579 ?_
  refine lv_aload_n C0.1 C0.2.1 dL_law_580 rfl (lv_at hl 0 rfl) ?_
  refine lv_iload C0.1 C0.2.1 dL_law_581 (lv_at hl 5 rfl) ?_
  refine lv_iconst (v := 2) C0.1 C0.2.1 dL_law_583 (by decide) ?_
  refine lv_iadd C0.1 C0.2.1 dL_law_584 ?_
  obtain ⟨e2, h⟩ := h
  refine va_sld C0.1 C0.2.1 hX9 hbl9 hbA9 hS e2 dL_law_585 ?_
  refine lv_aload_n C0.1 C0.2.1 dL_law_586 rfl (lv_at hl 3 rfl) ?_
  refine c_SW C0 hO hS (mL_life hl9 h) tb_785 tb_786 tb_73 tb_787 hd_L_life rfl ⟨⟨by decide, by decide⟩, by show _ + 2 ≤ 603072; omega, by show _ + 12 ≤ 7198826; omega⟩ hl.1 rfl (Nat.le_of_ble_eq_true rfl) dL_law_587 (kI (fun r4 S3 H locs h hO hS => ?_))
  change W _ _ _ _ _ _ _ _ _ _ _ _ (_ + 2) (_ + 12) _ _
  refine lv_istore C0.1 C0.2.1 dL_law_590 hl (by decide) rfl (fun ls hl => ?_)
  refine lv_aload_n C0.1 C0.2.1 dL_law_592 rfl (lv_at hl 3 rfl) ?_
  refine lv_aload_n C0.1 C0.2.1 dL_law_593 rfl (lv_at hl 1 rfl) ?_
  refine lv_iload C0.1 C0.2.1 dL_law_594 (lv_at hl 6 rfl) ?_
  refine lv_iconst (v := 1) C0.1 C0.2.1 dL_law_596 (by decide) ?_
  refine lv_iadd C0.1 C0.2.1 dL_law_597 ?_
  obtain ⟨e5, h⟩ := h
  refine va_sld C0.1 C0.2.1 hX9 hbl9 hbA9 hS e5 dL_law_598 ?_
  refine lv_aload_n C0.1 C0.2.1 dL_law_599 rfl (lv_at hl 1 rfl) ?_
  refine lv_iload C0.1 C0.2.1 dL_law_600 (lv_at hl 6 rfl) ?_
  refine lv_iconst (v := 2) C0.1 C0.2.1 dL_law_602 (by decide) ?_
  refine lv_iadd C0.1 C0.2.1 dL_law_603 ?_
  obtain ⟨e6, h⟩ := h
  refine va_sld C0.1 C0.2.1 hX9 hbl9 hbA9 hS e6 dL_law_604 ?_
  obtain ⟨i9, h⟩ := h
  refine c_V C0 hO hS (mX8_life h) i9 (by decide) rfl rfl tb_1510 tb_1511 tb_1512 tb_81 tb_1513 hd_X8_life rfl ⟨⟨by decide, by decide⟩, by show _ + 0 ≤ 603072; omega, by show _ + 0 ≤ 7198826; omega⟩ hl.1 rfl (Nat.le_of_ble_eq_true rfl) dL_law_605 (kI (fun r8 S7 H locs h hO hS => ?_))
  change W _ _ _ _ _ _ _ _ _ _ _ _ (_ + 0) (_ + 0) _ _
  refine lv_istore C0.1 C0.2.1 dL_law_608 hl (by decide) rfl (fun ls hl => ?_)
  refine lv_aload_n C0.1 C0.2.1 dL_law_610 rfl (lv_at hl 4 rfl) ?_
  obtain ⟨i12, h⟩ := h
  refine c_V C0 hO hS (mX8_thrown h) i12 (by decide) rfl rfl tb_1443 tb_1444 tb_1445 tb_81 tb_1446 hd_X8_thrown rfl ⟨⟨by decide, by decide⟩, by show _ + 0 ≤ 603072; omega, by show _ + 0 ≤ 7198826; omega⟩ hl.1 rfl (Nat.le_of_ble_eq_true rfl) dL_law_611 (kI (fun r11 S10 H locs h hO hS => ?_))
  change W _ _ _ _ _ _ _ _ _ _ _ _ (_ + 0) (_ + 0) _ _
  refine lv_iload C0.1 C0.2.1 dL_law_614 (lv_at hl 1 rfl) ?_
  refine lv_icmp_eq (tgt := 621) C0.1 C0.2.1 dL_law_616 (by decide) (fun c13 => ?_) (fun c13 => ?_)
  · replace h := h.1 c13
    refine lv_iload C0.1 C0.2.1 dL_law_621 (lv_at hl 1 rfl) ?_
    refine lv_if_ne (tgt := 638) C0.1 C0.2.1 dL_law_623 (by decide) (fun c14 => ?_) (fun c14 => ?_)
    · replace h := h.1 c14
      exact bL_law_b638 C0 Y hl9 hX9 hbl9 hbA9 hend9 hk28 _ _ _ _ _ _ _ _ _ _ _ h hO hS (lv_sub hl [2, 3, 4, 5, 6, 7] rfl) (by clear h; omega) (by clear h; omega)
    · replace h := h.2 c14
      refine lv_aload_n C0.1 C0.2.1 dL_law_626 rfl (lv_at hl 5 rfl) ?_
      refine lv_iconst (v := 0) C0.1 C0.2.1 dL_law_627 (by decide) ?_
      obtain ⟨i15, h⟩ := h
      obtain ⟨e16, h⟩ := h
      refine r_lald C0 hO i15 e16 dL_law_628 ?_
      refine lv_iload C0.1 C0.2.1 dL_law_629 (lv_at hl 0 rfl) ?_
      refine lv_i2l C0.1 C0.2.1 dL_law_631 rfl ?_
      refine W.lcmp C0.1 C0.2.1 dL_law_632 ?_
      refine lv_if_eq (tgt := 638) C0.1 C0.2.1 dL_law_633 (by decide) (fun c17 => ?_) (fun c17 => ?_)
      · replace h := h.1 c17
        exact bL_law_b638 C0 Y hl9 hX9 hbl9 hbA9 hend9 hk28 _ _ _ _ _ _ _ _ _ _ _ h hO hS (lv_sub hl [2, 3, 4, 5, 6, 7] rfl) (by clear h; omega) (by clear h; omega)
      · replace h := h.2 c17
        refine lv_iconst (v := 0) C0.1 C0.2.1 dL_law_636 (by decide) ?_
        exact h.elim
  · replace h := h.2 c13
    refine lv_iconst (v := 0) C0.1 C0.2.1 dL_law_619 (by decide) ?_
    exact h.elim
def wL_law_b706 (x0 : (Nat → Int32)) (L9 : Nat) (k28 : Hp → Nat → Nat → Nat → Nat → Int32 → Prop) (S : Hp) (v1 : Nat) (v2 : Nat) (v3 : Nat) (v4 : Nat) (v5 : Int32) : Prop := wL_law_b3146 x0 L9 k28 S v1 v2 v3 v4 v5
set_option maxHeartbeats 4000000 in
set_option maxRecDepth 100000 in
theorem bL_law_b706 {p : Program} {l : Launch} {e : Env} {s : State} {m : MethodId} {args : Array Value} {below : List Frame} {meth : Method} {c : Code} {G : Gw} {b9 : Nat} {Q : State → Prop} {x0 : (Nat → Int32)} {L9 : Nat} (C0 : Mx p s m c code 9 args yL_law.cls G) (Y : My meth (some .boolean)) (hl9 : l.stackTraces = false) (hX9 : va_X b9 L9 x0 s s.heap) (hbl9 : b9 < s.heap.size) (hbA9 : ¬ Ab G.b b9) (hend9 : ∀ (pc : Nat) (H : Heap) (locs : List Loc) (ls : Array Slot) (cells slots : Nat), decode code pc = .ok (.ireturn, 1) → va_S (Ab G.b) s.heap H locs → cells ≤ 603072 → slots ≤ 7198826 → W p l e room_1 s m args below meth c H locs cells slots Q (F0 m pc ls [.int 1])) {n9_28 : Nat} {k28 : Hp → Nat → Nat → Nat → Nat → Int32 → Prop} (hk28 : ∀ (S : Hp) (v1 : Nat) (v2 : Nat) (v3 : Nat) (v4 : Nat) (v5 : Int32) (H : Heap) (locs : List Loc) (ls : Array Slot) (cells slots : Nat), k28 S v1 v2 v3 v4 v5 → Ok G S H → va_S (Ab G.b) s.heap H locs → lv_has ls 9 [(0, .ref b9), (1, .ref v1), (2, .ref v2), (3, .ref v3), (4, .ref v4), (5, .int v5)] → cells + (n9_28 * 97 + 97) ≤ 603072 → slots + (n9_28 * 2225 + 2225) ≤ 7198826 → W p l e room_1 s m args below meth c H locs cells slots Q (F0 m 28 ls [])) : ∀ (S : Hp) (v1 : Nat) (v2 : Nat) (v3 : Nat) (v4 : Nat) (v5 : Int32) (H : Heap) (locs : List Loc) (ls : Array Slot) (cells slots : Nat), wL_law_b706 x0 L9 k28 S v1 v2 v3 v4 v5 → Ok G S H → va_S (Ab G.b) s.heap H locs → lv_has ls 9 [(0, .ref b9), (1, .ref v1), (2, .ref v2), (3, .ref v3), (4, .ref v4), (5, .int v5)] → cells + (n9_28 * 97 + 97) ≤ 603072 → slots + (n9_28 * 2225 + 2225) ≤ 7198826 → W p l e room_1 s m args below meth c H locs cells slots Q (F0 m 706 ls []) := by
  intro S v1 v2 v3 v4 v5 H locs ls cells slots h hO hS hl hcc hss
  unfold wL_law_b706 at h
  refine lv_goto (tgt := 3146) C0.1 C0.2.1 dL_law_706 (by decide) ?_
  exact bL_law_b3146 C0 Y hl9 hX9 hbl9 hbA9 hend9 hk28 _ _ _ _ _ _ _ _ _ _ _ h hO hS (lv_sub hl [0, 1, 2, 3, 4, 5] rfl) (by clear h; omega) (by clear h; omega)
def wL_law_b641 (x0 : (Nat → Int32)) (L9 : Nat) (k28 : Hp → Nat → Nat → Nat → Nat → Int32 → Prop) (S : Hp) (v1 : Nat) (v2 : Nat) (v3 : Nat) (v4 : Nat) (v5 : Int32) : Prop := vp_in (v5 + 1) L9 ∧ vp_in (v5 + 2) L9 ∧ wL_slack S v1 (x0 (v5 + 1).toNatClampNeg) (x0 (v5 + 2).toNatClampNeg) v3 (fun S3 r4 => vp_in (v5 + 1) L9 ∧ vp_in (v5 + 2) L9 ∧ isA S3 v2 8 ∧ wX8_slack S3 v2 (x0 (v5 + 1).toNatClampNeg) (x0 (v5 + 2).toNatClampNeg) (fun S7 r8 => isA S7 v2 8 ∧ wX8_thrown S7 v2 (fun S10 r11 => ((r11 = r4 → ((¬ r4 = 0 → wL_law_b706 x0 L9 k28 S10 v1 v2 v3 v4 v5) ∧ (r4 = 0 → isA S10 v3 22 ∧ vp_in 0 (S10.N v3) ∧ (((lg_cmp (S10.AJ v3 ((0 : Int32).toNatClampNeg)) r8.toInt64) = 0 → wL_law_b706 x0 L9 k28 S10 v1 v2 v3 v4 v5) ∧ (¬ ((lg_cmp (S10.AJ v3 ((0 : Int32).toNatClampNeg)) r8.toInt64) = 0) → False))))) ∧ (¬ (r11 = r4) → False)))))
set_option maxHeartbeats 4000000 in
set_option maxRecDepth 100000 in
theorem bL_law_b641 {p : Program} {l : Launch} {e : Env} {s : State} {m : MethodId} {args : Array Value} {below : List Frame} {meth : Method} {c : Code} {G : Gw} {b9 : Nat} {Q : State → Prop} {x0 : (Nat → Int32)} {L9 : Nat} (C0 : Mx p s m c code 9 args yL_law.cls G) (Y : My meth (some .boolean)) (hl9 : l.stackTraces = false) (hX9 : va_X b9 L9 x0 s s.heap) (hbl9 : b9 < s.heap.size) (hbA9 : ¬ Ab G.b b9) (hend9 : ∀ (pc : Nat) (H : Heap) (locs : List Loc) (ls : Array Slot) (cells slots : Nat), decode code pc = .ok (.ireturn, 1) → va_S (Ab G.b) s.heap H locs → cells ≤ 603072 → slots ≤ 7198826 → W p l e room_1 s m args below meth c H locs cells slots Q (F0 m pc ls [.int 1])) {n9_28 : Nat} {k28 : Hp → Nat → Nat → Nat → Nat → Int32 → Prop} (hk28 : ∀ (S : Hp) (v1 : Nat) (v2 : Nat) (v3 : Nat) (v4 : Nat) (v5 : Int32) (H : Heap) (locs : List Loc) (ls : Array Slot) (cells slots : Nat), k28 S v1 v2 v3 v4 v5 → Ok G S H → va_S (Ab G.b) s.heap H locs → lv_has ls 9 [(0, .ref b9), (1, .ref v1), (2, .ref v2), (3, .ref v3), (4, .ref v4), (5, .int v5)] → cells + (n9_28 * 97 + 97) ≤ 603072 → slots + (n9_28 * 2225 + 2225) ≤ 7198826 → W p l e room_1 s m args below meth c H locs cells slots Q (F0 m 28 ls [])) : ∀ (S : Hp) (v1 : Nat) (v2 : Nat) (v3 : Nat) (v4 : Nat) (v5 : Int32) (H : Heap) (locs : List Loc) (ls : Array Slot) (cells slots : Nat), wL_law_b641 x0 L9 k28 S v1 v2 v3 v4 v5 → Ok G S H → va_S (Ab G.b) s.heap H locs → lv_has ls 9 [(0, .ref b9), (1, .ref v1), (2, .ref v2), (3, .ref v3), (4, .ref v4), (5, .int v5)] → cells + (n9_28 * 97 + 99) ≤ 603072 → slots + (n9_28 * 2225 + 2237) ≤ 7198826 → W p l e room_1 s m args below meth c H locs cells slots Q (F0 m 641 ls []) := by
  intro S v1 v2 v3 v4 v5 H locs ls cells slots h hO hS hl hcc hss
  unfold wL_law_b641 at h
  refine lv_aload_n C0.1 C0.2.1 dL_law_641 rfl (lv_at hl 1 rfl) ?_
  refine lv_aload_n C0.1 C0.2.1 dL_law_642 rfl (lv_at hl 0 rfl) ?_
  refine lv_iload C0.1 C0.2.1 dL_law_643 (lv_at hl 5 rfl) ?_
  refine lv_iconst (v := 1) C0.1 C0.2.1 dL_law_645 (by decide) ?_
  refine lv_iadd C0.1 C0.2.1 dL_law_646 ?_
  obtain ⟨e1, h⟩ := h
  refine va_sld C0.1 C0.2.1 hX9 hbl9 hbA9 hS e1 dL_law_647 ?_
  refine lv_aload_n C0.1 C0.2.1 dL_law_648 rfl (lv_at hl 0 rfl) ?_
  refine lv_iload C0.1 C0.2.1 dL_law_649 (lv_at hl 5 rfl) ?_
  refine lv_iconst (v := 2) C0.1 C0.2.1 dL_law_651 (by decide) ?_
  refine lv_iadd C0.1 C0.2.1 dL_law_652 ?_
  obtain ⟨e2, h⟩ := h
  refine va_sld C0.1 C0.2.1 hX9 hbl9 hbA9 hS e2 dL_law_653 ?_
  refine lv_aload_n C0.1 C0.2.1 dL_law_654 rfl (lv_at hl 3 rfl) ?_
  refine c_SW C0 hO hS (mL_slack hl9 h) tb_792 tb_793 tb_73 tb_794 hd_L_slack rfl ⟨⟨by decide, by decide⟩, by show _ + 2 ≤ 603072; omega, by show _ + 12 ≤ 7198826; omega⟩ hl.1 rfl (Nat.le_of_ble_eq_true rfl) dL_law_655 (kI (fun r4 S3 H locs h hO hS => ?_))
  change W _ _ _ _ _ _ _ _ _ _ _ _ (_ + 2) (_ + 12) _ _
  refine lv_istore C0.1 C0.2.1 dL_law_658 hl (by decide) rfl (fun ls hl => ?_)
  refine lv_aload_n C0.1 C0.2.1 dL_law_660 rfl (lv_at hl 3 rfl) ?_
  refine lv_aload_n C0.1 C0.2.1 dL_law_661 rfl (lv_at hl 1 rfl) ?_
  refine lv_iload C0.1 C0.2.1 dL_law_662 (lv_at hl 6 rfl) ?_
  refine lv_iconst (v := 1) C0.1 C0.2.1 dL_law_664 (by decide) ?_
  refine lv_iadd C0.1 C0.2.1 dL_law_665 ?_
  obtain ⟨e5, h⟩ := h
  refine va_sld C0.1 C0.2.1 hX9 hbl9 hbA9 hS e5 dL_law_666 ?_
  refine lv_aload_n C0.1 C0.2.1 dL_law_667 rfl (lv_at hl 1 rfl) ?_
  refine lv_iload C0.1 C0.2.1 dL_law_668 (lv_at hl 6 rfl) ?_
  refine lv_iconst (v := 2) C0.1 C0.2.1 dL_law_670 (by decide) ?_
  refine lv_iadd C0.1 C0.2.1 dL_law_671 ?_
  obtain ⟨e6, h⟩ := h
  refine va_sld C0.1 C0.2.1 hX9 hbl9 hbA9 hS e6 dL_law_672 ?_
  obtain ⟨i9, h⟩ := h
  refine c_V C0 hO hS (mX8_slack h) i9 (by decide) rfl rfl tb_1514 tb_1515 tb_1516 tb_81 tb_1517 hd_X8_slack rfl ⟨⟨by decide, by decide⟩, by show _ + 0 ≤ 603072; omega, by show _ + 0 ≤ 7198826; omega⟩ hl.1 rfl (Nat.le_of_ble_eq_true rfl) dL_law_673 (kI (fun r8 S7 H locs h hO hS => ?_))
  change W _ _ _ _ _ _ _ _ _ _ _ _ (_ + 0) (_ + 0) _ _
  refine lv_istore C0.1 C0.2.1 dL_law_676 hl (by decide) rfl (fun ls hl => ?_)
  refine lv_aload_n C0.1 C0.2.1 dL_law_678 rfl (lv_at hl 4 rfl) ?_
  obtain ⟨i12, h⟩ := h
  refine c_V C0 hO hS (mX8_thrown h) i12 (by decide) rfl rfl tb_1443 tb_1444 tb_1445 tb_81 tb_1446 hd_X8_thrown rfl ⟨⟨by decide, by decide⟩, by show _ + 0 ≤ 603072; omega, by show _ + 0 ≤ 7198826; omega⟩ hl.1 rfl (Nat.le_of_ble_eq_true rfl) dL_law_679 (kI (fun r11 S10 H locs h hO hS => ?_))
  change W _ _ _ _ _ _ _ _ _ _ _ _ (_ + 0) (_ + 0) _ _
  refine lv_iload C0.1 C0.2.1 dL_law_682 (lv_at hl 1 rfl) ?_
  refine lv_icmp_eq (tgt := 689) C0.1 C0.2.1 dL_law_684 (by decide) (fun c13 => ?_) (fun c13 => ?_)
  · replace h := h.1 c13
    refine lv_iload C0.1 C0.2.1 dL_law_689 (lv_at hl 1 rfl) ?_
    refine lv_if_ne (tgt := 706) C0.1 C0.2.1 dL_law_691 (by decide) (fun c14 => ?_) (fun c14 => ?_)
    · replace h := h.1 c14
      exact bL_law_b706 C0 Y hl9 hX9 hbl9 hbA9 hend9 hk28 _ _ _ _ _ _ _ _ _ _ _ h hO hS (lv_sub hl [2, 3, 4, 5, 6, 7] rfl) (by clear h; omega) (by clear h; omega)
    · replace h := h.2 c14
      refine lv_aload_n C0.1 C0.2.1 dL_law_694 rfl (lv_at hl 5 rfl) ?_
      refine lv_iconst (v := 0) C0.1 C0.2.1 dL_law_695 (by decide) ?_
      obtain ⟨i15, h⟩ := h
      obtain ⟨e16, h⟩ := h
      refine r_lald C0 hO i15 e16 dL_law_696 ?_
      refine lv_iload C0.1 C0.2.1 dL_law_697 (lv_at hl 0 rfl) ?_
      refine lv_i2l C0.1 C0.2.1 dL_law_699 rfl ?_
      refine W.lcmp C0.1 C0.2.1 dL_law_700 ?_
      refine lv_if_eq (tgt := 706) C0.1 C0.2.1 dL_law_701 (by decide) (fun c17 => ?_) (fun c17 => ?_)
      · replace h := h.1 c17
        exact bL_law_b706 C0 Y hl9 hX9 hbl9 hbA9 hend9 hk28 _ _ _ _ _ _ _ _ _ _ _ h hO hS (lv_sub hl [2, 3, 4, 5, 6, 7] rfl) (by clear h; omega) (by clear h; omega)
      · replace h := h.2 c17
        refine lv_iconst (v := 0) C0.1 C0.2.1 dL_law_704 (by decide) ?_
        exact h.elim
  · replace h := h.2 c13
    refine lv_iconst (v := 0) C0.1 C0.2.1 dL_law_687 (by decide) ?_
    exact h.elim
def wL_law_b774 (x0 : (Nat → Int32)) (L9 : Nat) (k28 : Hp → Nat → Nat → Nat → Nat → Int32 → Prop) (S : Hp) (v1 : Nat) (v2 : Nat) (v3 : Nat) (v4 : Nat) (v5 : Int32) : Prop := wL_law_b3146 x0 L9 k28 S v1 v2 v3 v4 v5
set_option maxHeartbeats 4000000 in
set_option maxRecDepth 100000 in
theorem bL_law_b774 {p : Program} {l : Launch} {e : Env} {s : State} {m : MethodId} {args : Array Value} {below : List Frame} {meth : Method} {c : Code} {G : Gw} {b9 : Nat} {Q : State → Prop} {x0 : (Nat → Int32)} {L9 : Nat} (C0 : Mx p s m c code 9 args yL_law.cls G) (Y : My meth (some .boolean)) (hl9 : l.stackTraces = false) (hX9 : va_X b9 L9 x0 s s.heap) (hbl9 : b9 < s.heap.size) (hbA9 : ¬ Ab G.b b9) (hend9 : ∀ (pc : Nat) (H : Heap) (locs : List Loc) (ls : Array Slot) (cells slots : Nat), decode code pc = .ok (.ireturn, 1) → va_S (Ab G.b) s.heap H locs → cells ≤ 603072 → slots ≤ 7198826 → W p l e room_1 s m args below meth c H locs cells slots Q (F0 m pc ls [.int 1])) {n9_28 : Nat} {k28 : Hp → Nat → Nat → Nat → Nat → Int32 → Prop} (hk28 : ∀ (S : Hp) (v1 : Nat) (v2 : Nat) (v3 : Nat) (v4 : Nat) (v5 : Int32) (H : Heap) (locs : List Loc) (ls : Array Slot) (cells slots : Nat), k28 S v1 v2 v3 v4 v5 → Ok G S H → va_S (Ab G.b) s.heap H locs → lv_has ls 9 [(0, .ref b9), (1, .ref v1), (2, .ref v2), (3, .ref v3), (4, .ref v4), (5, .int v5)] → cells + (n9_28 * 97 + 97) ≤ 603072 → slots + (n9_28 * 2225 + 2225) ≤ 7198826 → W p l e room_1 s m args below meth c H locs cells slots Q (F0 m 28 ls [])) : ∀ (S : Hp) (v1 : Nat) (v2 : Nat) (v3 : Nat) (v4 : Nat) (v5 : Int32) (H : Heap) (locs : List Loc) (ls : Array Slot) (cells slots : Nat), wL_law_b774 x0 L9 k28 S v1 v2 v3 v4 v5 → Ok G S H → va_S (Ab G.b) s.heap H locs → lv_has ls 9 [(0, .ref b9), (1, .ref v1), (2, .ref v2), (3, .ref v3), (4, .ref v4), (5, .int v5)] → cells + (n9_28 * 97 + 97) ≤ 603072 → slots + (n9_28 * 2225 + 2225) ≤ 7198826 → W p l e room_1 s m args below meth c H locs cells slots Q (F0 m 774 ls []) := by
  intro S v1 v2 v3 v4 v5 H locs ls cells slots h hO hS hl hcc hss
  unfold wL_law_b774 at h
  refine lv_goto (tgt := 3146) C0.1 C0.2.1 dL_law_774 (by decide) ?_
  exact bL_law_b3146 C0 Y hl9 hX9 hbl9 hbA9 hend9 hk28 _ _ _ _ _ _ _ _ _ _ _ h hO hS (lv_sub hl [0, 1, 2, 3, 4, 5] rfl) (by clear h; omega) (by clear h; omega)
def wL_law_b709 (x0 : (Nat → Int32)) (L9 : Nat) (k28 : Hp → Nat → Nat → Nat → Nat → Int32 → Prop) (S : Hp) (v1 : Nat) (v2 : Nat) (v3 : Nat) (v4 : Nat) (v5 : Int32) : Prop := vp_in (v5 + 1) L9 ∧ vp_in (v5 + 2) L9 ∧ wL_turn S v1 (x0 (v5 + 1).toNatClampNeg) (x0 (v5 + 2).toNatClampNeg) v3 (fun S3 r4 => vp_in (v5 + 1) L9 ∧ vp_in (v5 + 2) L9 ∧ isA S3 v2 8 ∧ wX8_turn S3 v2 (x0 (v5 + 1).toNatClampNeg) (x0 (v5 + 2).toNatClampNeg) (fun S7 r8 => isA S7 v2 8 ∧ wX8_thrown S7 v2 (fun S10 r11 => ((r11 = r4 → ((¬ r4 = 0 → wL_law_b774 x0 L9 k28 S10 v1 v2 v3 v4 v5) ∧ (r4 = 0 → isA S10 v3 22 ∧ vp_in 0 (S10.N v3) ∧ (((lg_cmp (S10.AJ v3 ((0 : Int32).toNatClampNeg)) r8.toInt64) = 0 → wL_law_b774 x0 L9 k28 S10 v1 v2 v3 v4 v5) ∧ (¬ ((lg_cmp (S10.AJ v3 ((0 : Int32).toNatClampNeg)) r8.toInt64) = 0) → False))))) ∧ (¬ (r11 = r4) → False)))))
set_option maxHeartbeats 4000000 in
set_option maxRecDepth 100000 in
theorem bL_law_b709 {p : Program} {l : Launch} {e : Env} {s : State} {m : MethodId} {args : Array Value} {below : List Frame} {meth : Method} {c : Code} {G : Gw} {b9 : Nat} {Q : State → Prop} {x0 : (Nat → Int32)} {L9 : Nat} (C0 : Mx p s m c code 9 args yL_law.cls G) (Y : My meth (some .boolean)) (hl9 : l.stackTraces = false) (hX9 : va_X b9 L9 x0 s s.heap) (hbl9 : b9 < s.heap.size) (hbA9 : ¬ Ab G.b b9) (hend9 : ∀ (pc : Nat) (H : Heap) (locs : List Loc) (ls : Array Slot) (cells slots : Nat), decode code pc = .ok (.ireturn, 1) → va_S (Ab G.b) s.heap H locs → cells ≤ 603072 → slots ≤ 7198826 → W p l e room_1 s m args below meth c H locs cells slots Q (F0 m pc ls [.int 1])) {n9_28 : Nat} {k28 : Hp → Nat → Nat → Nat → Nat → Int32 → Prop} (hk28 : ∀ (S : Hp) (v1 : Nat) (v2 : Nat) (v3 : Nat) (v4 : Nat) (v5 : Int32) (H : Heap) (locs : List Loc) (ls : Array Slot) (cells slots : Nat), k28 S v1 v2 v3 v4 v5 → Ok G S H → va_S (Ab G.b) s.heap H locs → lv_has ls 9 [(0, .ref b9), (1, .ref v1), (2, .ref v2), (3, .ref v3), (4, .ref v4), (5, .int v5)] → cells + (n9_28 * 97 + 97) ≤ 603072 → slots + (n9_28 * 2225 + 2225) ≤ 7198826 → W p l e room_1 s m args below meth c H locs cells slots Q (F0 m 28 ls [])) : ∀ (S : Hp) (v1 : Nat) (v2 : Nat) (v3 : Nat) (v4 : Nat) (v5 : Int32) (H : Heap) (locs : List Loc) (ls : Array Slot) (cells slots : Nat), wL_law_b709 x0 L9 k28 S v1 v2 v3 v4 v5 → Ok G S H → va_S (Ab G.b) s.heap H locs → lv_has ls 9 [(0, .ref b9), (1, .ref v1), (2, .ref v2), (3, .ref v3), (4, .ref v4), (5, .int v5)] → cells + (n9_28 * 97 + 100) ≤ 603072 → slots + (n9_28 * 2225 + 2243) ≤ 7198826 → W p l e room_1 s m args below meth c H locs cells slots Q (F0 m 709 ls []) := by
  intro S v1 v2 v3 v4 v5 H locs ls cells slots h hO hS hl hcc hss
  unfold wL_law_b709 at h
  refine lv_aload_n C0.1 C0.2.1 dL_law_709 rfl (lv_at hl 1 rfl) ?_
  refine lv_aload_n C0.1 C0.2.1 dL_law_710 rfl (lv_at hl 0 rfl) ?_
  refine lv_iload C0.1 C0.2.1 dL_law_711 (lv_at hl 5 rfl) ?_
  refine lv_iconst (v := 1) C0.1 C0.2.1 dL_law_713 (by decide) ?_
  refine lv_iadd C0.1 C0.2.1 dL_law_714 ?_
  obtain ⟨e1, h⟩ := h
  refine va_sld C0.1 C0.2.1 hX9 hbl9 hbA9 hS e1 dL_law_715 ?_
  refine lv_aload_n C0.1 C0.2.1 dL_law_716 rfl (lv_at hl 0 rfl) ?_
  refine lv_iload C0.1 C0.2.1 dL_law_717 (lv_at hl 5 rfl) ?_
  refine lv_iconst (v := 2) C0.1 C0.2.1 dL_law_719 (by decide) ?_
  refine lv_iadd C0.1 C0.2.1 dL_law_720 ?_
  obtain ⟨e2, h⟩ := h
  refine va_sld C0.1 C0.2.1 hX9 hbl9 hbA9 hS e2 dL_law_721 ?_
  refine lv_aload_n C0.1 C0.2.1 dL_law_722 rfl (lv_at hl 3 rfl) ?_
  refine c_SW C0 hO hS (mL_turn hl9 h) tb_799 tb_800 tb_73 tb_801 hd_L_turn rfl ⟨⟨by decide, by decide⟩, by show _ + 3 ≤ 603072; omega, by show _ + 18 ≤ 7198826; omega⟩ hl.1 rfl (Nat.le_of_ble_eq_true rfl) dL_law_723 (kI (fun r4 S3 H locs h hO hS => ?_))
  change W _ _ _ _ _ _ _ _ _ _ _ _ (_ + 3) (_ + 18) _ _
  refine lv_istore C0.1 C0.2.1 dL_law_726 hl (by decide) rfl (fun ls hl => ?_)
  refine lv_aload_n C0.1 C0.2.1 dL_law_728 rfl (lv_at hl 3 rfl) ?_
  refine lv_aload_n C0.1 C0.2.1 dL_law_729 rfl (lv_at hl 1 rfl) ?_
  refine lv_iload C0.1 C0.2.1 dL_law_730 (lv_at hl 6 rfl) ?_
  refine lv_iconst (v := 1) C0.1 C0.2.1 dL_law_732 (by decide) ?_
  refine lv_iadd C0.1 C0.2.1 dL_law_733 ?_
  obtain ⟨e5, h⟩ := h
  refine va_sld C0.1 C0.2.1 hX9 hbl9 hbA9 hS e5 dL_law_734 ?_
  refine lv_aload_n C0.1 C0.2.1 dL_law_735 rfl (lv_at hl 1 rfl) ?_
  refine lv_iload C0.1 C0.2.1 dL_law_736 (lv_at hl 6 rfl) ?_
  refine lv_iconst (v := 2) C0.1 C0.2.1 dL_law_738 (by decide) ?_
  refine lv_iadd C0.1 C0.2.1 dL_law_739 ?_
  obtain ⟨e6, h⟩ := h
  refine va_sld C0.1 C0.2.1 hX9 hbl9 hbA9 hS e6 dL_law_740 ?_
  obtain ⟨i9, h⟩ := h
  refine c_V C0 hO hS (mX8_turn h) i9 (by decide) rfl rfl tb_1518 tb_1519 tb_1520 tb_81 tb_1521 hd_X8_turn rfl ⟨⟨by decide, by decide⟩, by show _ + 0 ≤ 603072; omega, by show _ + 0 ≤ 7198826; omega⟩ hl.1 rfl (Nat.le_of_ble_eq_true rfl) dL_law_741 (kI (fun r8 S7 H locs h hO hS => ?_))
  change W _ _ _ _ _ _ _ _ _ _ _ _ (_ + 0) (_ + 0) _ _
  refine lv_istore C0.1 C0.2.1 dL_law_744 hl (by decide) rfl (fun ls hl => ?_)
  refine lv_aload_n C0.1 C0.2.1 dL_law_746 rfl (lv_at hl 4 rfl) ?_
  obtain ⟨i12, h⟩ := h
  refine c_V C0 hO hS (mX8_thrown h) i12 (by decide) rfl rfl tb_1443 tb_1444 tb_1445 tb_81 tb_1446 hd_X8_thrown rfl ⟨⟨by decide, by decide⟩, by show _ + 0 ≤ 603072; omega, by show _ + 0 ≤ 7198826; omega⟩ hl.1 rfl (Nat.le_of_ble_eq_true rfl) dL_law_747 (kI (fun r11 S10 H locs h hO hS => ?_))
  change W _ _ _ _ _ _ _ _ _ _ _ _ (_ + 0) (_ + 0) _ _
  refine lv_iload C0.1 C0.2.1 dL_law_750 (lv_at hl 1 rfl) ?_
  refine lv_icmp_eq (tgt := 757) C0.1 C0.2.1 dL_law_752 (by decide) (fun c13 => ?_) (fun c13 => ?_)
  · replace h := h.1 c13
    refine lv_iload C0.1 C0.2.1 dL_law_757 (lv_at hl 1 rfl) ?_
    refine lv_if_ne (tgt := 774) C0.1 C0.2.1 dL_law_759 (by decide) (fun c14 => ?_) (fun c14 => ?_)
    · replace h := h.1 c14
      exact bL_law_b774 C0 Y hl9 hX9 hbl9 hbA9 hend9 hk28 _ _ _ _ _ _ _ _ _ _ _ h hO hS (lv_sub hl [2, 3, 4, 5, 6, 7] rfl) (by clear h; omega) (by clear h; omega)
    · replace h := h.2 c14
      refine lv_aload_n C0.1 C0.2.1 dL_law_762 rfl (lv_at hl 5 rfl) ?_
      refine lv_iconst (v := 0) C0.1 C0.2.1 dL_law_763 (by decide) ?_
      obtain ⟨i15, h⟩ := h
      obtain ⟨e16, h⟩ := h
      refine r_lald C0 hO i15 e16 dL_law_764 ?_
      refine lv_iload C0.1 C0.2.1 dL_law_765 (lv_at hl 0 rfl) ?_
      refine lv_i2l C0.1 C0.2.1 dL_law_767 rfl ?_
      refine W.lcmp C0.1 C0.2.1 dL_law_768 ?_
      refine lv_if_eq (tgt := 774) C0.1 C0.2.1 dL_law_769 (by decide) (fun c17 => ?_) (fun c17 => ?_)
      · replace h := h.1 c17
        exact bL_law_b774 C0 Y hl9 hX9 hbl9 hbA9 hend9 hk28 _ _ _ _ _ _ _ _ _ _ _ h hO hS (lv_sub hl [2, 3, 4, 5, 6, 7] rfl) (by clear h; omega) (by clear h; omega)
      · replace h := h.2 c17
        refine lv_iconst (v := 0) C0.1 C0.2.1 dL_law_772 (by decide) ?_
        exact h.elim
  · replace h := h.2 c13
    refine lv_iconst (v := 0) C0.1 C0.2.1 dL_law_755 (by decide) ?_
    exact h.elim
def wL_law_b829 (x0 : (Nat → Int32)) (L9 : Nat) (k28 : Hp → Nat → Nat → Nat → Nat → Int32 → Prop) (S : Hp) (v1 : Nat) (v2 : Nat) (v3 : Nat) (v4 : Nat) (v5 : Int32) : Prop := wL_law_b3146 x0 L9 k28 S v1 v2 v3 v4 v5
set_option maxHeartbeats 4000000 in
set_option maxRecDepth 100000 in
theorem bL_law_b829 {p : Program} {l : Launch} {e : Env} {s : State} {m : MethodId} {args : Array Value} {below : List Frame} {meth : Method} {c : Code} {G : Gw} {b9 : Nat} {Q : State → Prop} {x0 : (Nat → Int32)} {L9 : Nat} (C0 : Mx p s m c code 9 args yL_law.cls G) (Y : My meth (some .boolean)) (hl9 : l.stackTraces = false) (hX9 : va_X b9 L9 x0 s s.heap) (hbl9 : b9 < s.heap.size) (hbA9 : ¬ Ab G.b b9) (hend9 : ∀ (pc : Nat) (H : Heap) (locs : List Loc) (ls : Array Slot) (cells slots : Nat), decode code pc = .ok (.ireturn, 1) → va_S (Ab G.b) s.heap H locs → cells ≤ 603072 → slots ≤ 7198826 → W p l e room_1 s m args below meth c H locs cells slots Q (F0 m pc ls [.int 1])) {n9_28 : Nat} {k28 : Hp → Nat → Nat → Nat → Nat → Int32 → Prop} (hk28 : ∀ (S : Hp) (v1 : Nat) (v2 : Nat) (v3 : Nat) (v4 : Nat) (v5 : Int32) (H : Heap) (locs : List Loc) (ls : Array Slot) (cells slots : Nat), k28 S v1 v2 v3 v4 v5 → Ok G S H → va_S (Ab G.b) s.heap H locs → lv_has ls 9 [(0, .ref b9), (1, .ref v1), (2, .ref v2), (3, .ref v3), (4, .ref v4), (5, .int v5)] → cells + (n9_28 * 97 + 97) ≤ 603072 → slots + (n9_28 * 2225 + 2225) ≤ 7198826 → W p l e room_1 s m args below meth c H locs cells slots Q (F0 m 28 ls [])) : ∀ (S : Hp) (v1 : Nat) (v2 : Nat) (v3 : Nat) (v4 : Nat) (v5 : Int32) (H : Heap) (locs : List Loc) (ls : Array Slot) (cells slots : Nat), wL_law_b829 x0 L9 k28 S v1 v2 v3 v4 v5 → Ok G S H → va_S (Ab G.b) s.heap H locs → lv_has ls 9 [(0, .ref b9), (1, .ref v1), (2, .ref v2), (3, .ref v3), (4, .ref v4), (5, .int v5)] → cells + (n9_28 * 97 + 97) ≤ 603072 → slots + (n9_28 * 2225 + 2225) ≤ 7198826 → W p l e room_1 s m args below meth c H locs cells slots Q (F0 m 829 ls []) := by
  intro S v1 v2 v3 v4 v5 H locs ls cells slots h hO hS hl hcc hss
  unfold wL_law_b829 at h
  refine lv_goto (tgt := 3146) C0.1 C0.2.1 dL_law_829 (by decide) ?_
  exact bL_law_b3146 C0 Y hl9 hX9 hbl9 hbA9 hend9 hk28 _ _ _ _ _ _ _ _ _ _ _ h hO hS (lv_sub hl [0, 1, 2, 3, 4, 5] rfl) (by clear h; omega) (by clear h; omega)
def wL_law_b777 (x0 : (Nat → Int32)) (L9 : Nat) (k28 : Hp → Nat → Nat → Nat → Nat → Int32 → Prop) (S : Hp) (v1 : Nat) (v2 : Nat) (v3 : Nat) (v4 : Nat) (v5 : Int32) : Prop := vp_in (v5 + 1) L9 ∧ wL_placeOver S v1 (x0 (v5 + 1).toNatClampNeg) v3 (fun S2 r3 => vp_in (v5 + 1) L9 ∧ isA S2 v2 8 ∧ wX8_placeOver S2 v2 (x0 (v5 + 1).toNatClampNeg) (fun S5 r6 => isA S5 v2 8 ∧ wX8_thrown S5 v2 (fun S8 r9 => ((r9 = r3 → ((¬ r3 = 0 → wL_law_b829 x0 L9 k28 S8 v1 v2 v3 v4 v5) ∧ (r3 = 0 → isA S8 v3 22 ∧ vp_in 0 (S8.N v3) ∧ (((lg_cmp (S8.AJ v3 ((0 : Int32).toNatClampNeg)) r6) = 0 → wL_law_b829 x0 L9 k28 S8 v1 v2 v3 v4 v5) ∧ (¬ ((lg_cmp (S8.AJ v3 ((0 : Int32).toNatClampNeg)) r6) = 0) → False))))) ∧ (¬ (r9 = r3) → False)))))
set_option maxHeartbeats 4000000 in
set_option maxRecDepth 100000 in
theorem bL_law_b777 {p : Program} {l : Launch} {e : Env} {s : State} {m : MethodId} {args : Array Value} {below : List Frame} {meth : Method} {c : Code} {G : Gw} {b9 : Nat} {Q : State → Prop} {x0 : (Nat → Int32)} {L9 : Nat} (C0 : Mx p s m c code 9 args yL_law.cls G) (Y : My meth (some .boolean)) (hl9 : l.stackTraces = false) (hX9 : va_X b9 L9 x0 s s.heap) (hbl9 : b9 < s.heap.size) (hbA9 : ¬ Ab G.b b9) (hend9 : ∀ (pc : Nat) (H : Heap) (locs : List Loc) (ls : Array Slot) (cells slots : Nat), decode code pc = .ok (.ireturn, 1) → va_S (Ab G.b) s.heap H locs → cells ≤ 603072 → slots ≤ 7198826 → W p l e room_1 s m args below meth c H locs cells slots Q (F0 m pc ls [.int 1])) {n9_28 : Nat} {k28 : Hp → Nat → Nat → Nat → Nat → Int32 → Prop} (hk28 : ∀ (S : Hp) (v1 : Nat) (v2 : Nat) (v3 : Nat) (v4 : Nat) (v5 : Int32) (H : Heap) (locs : List Loc) (ls : Array Slot) (cells slots : Nat), k28 S v1 v2 v3 v4 v5 → Ok G S H → va_S (Ab G.b) s.heap H locs → lv_has ls 9 [(0, .ref b9), (1, .ref v1), (2, .ref v2), (3, .ref v3), (4, .ref v4), (5, .int v5)] → cells + (n9_28 * 97 + 97) ≤ 603072 → slots + (n9_28 * 2225 + 2225) ≤ 7198826 → W p l e room_1 s m args below meth c H locs cells slots Q (F0 m 28 ls [])) : ∀ (S : Hp) (v1 : Nat) (v2 : Nat) (v3 : Nat) (v4 : Nat) (v5 : Int32) (H : Heap) (locs : List Loc) (ls : Array Slot) (cells slots : Nat), wL_law_b777 x0 L9 k28 S v1 v2 v3 v4 v5 → Ok G S H → va_S (Ab G.b) s.heap H locs → lv_has ls 9 [(0, .ref b9), (1, .ref v1), (2, .ref v2), (3, .ref v3), (4, .ref v4), (5, .int v5)] → cells + (n9_28 * 97 + 98) ≤ 603072 → slots + (n9_28 * 2225 + 2231) ≤ 7198826 → W p l e room_1 s m args below meth c H locs cells slots Q (F0 m 777 ls []) := by
  intro S v1 v2 v3 v4 v5 H locs ls cells slots h hO hS hl hcc hss
  unfold wL_law_b777 at h
  refine lv_aload_n C0.1 C0.2.1 dL_law_777 rfl (lv_at hl 1 rfl) ?_
  refine lv_aload_n C0.1 C0.2.1 dL_law_778 rfl (lv_at hl 0 rfl) ?_
  refine lv_iload C0.1 C0.2.1 dL_law_779 (lv_at hl 5 rfl) ?_
  refine lv_iconst (v := 1) C0.1 C0.2.1 dL_law_781 (by decide) ?_
  refine lv_iadd C0.1 C0.2.1 dL_law_782 ?_
  obtain ⟨e1, h⟩ := h
  refine va_sld C0.1 C0.2.1 hX9 hbl9 hbA9 hS e1 dL_law_783 ?_
  refine lv_aload_n C0.1 C0.2.1 dL_law_784 rfl (lv_at hl 3 rfl) ?_
  refine c_SW C0 hO hS (mL_placeOver hl9 h) tb_851 tb_852 tb_73 tb_853 hd_L_placeOver rfl ⟨⟨by decide, by decide⟩, by show _ + 1 ≤ 603072; omega, by show _ + 6 ≤ 7198826; omega⟩ hl.1 rfl (Nat.le_of_ble_eq_true rfl) dL_law_785 (kI (fun r3 S2 H locs h hO hS => ?_))
  change W _ _ _ _ _ _ _ _ _ _ _ _ (_ + 1) (_ + 6) _ _
  refine lv_istore C0.1 C0.2.1 dL_law_788 hl (by decide) rfl (fun ls hl => ?_)
  refine lv_aload_n C0.1 C0.2.1 dL_law_790 rfl (lv_at hl 3 rfl) ?_
  refine lv_aload_n C0.1 C0.2.1 dL_law_791 rfl (lv_at hl 1 rfl) ?_
  refine lv_iload C0.1 C0.2.1 dL_law_792 (lv_at hl 6 rfl) ?_
  refine lv_iconst (v := 1) C0.1 C0.2.1 dL_law_794 (by decide) ?_
  refine lv_iadd C0.1 C0.2.1 dL_law_795 ?_
  obtain ⟨e4, h⟩ := h
  refine va_sld C0.1 C0.2.1 hX9 hbl9 hbA9 hS e4 dL_law_796 ?_
  obtain ⟨i7, h⟩ := h
  refine c_V C0 hO hS (mX8_placeOver h) i7 (by decide) rfl rfl tb_1563 tb_1564 tb_1565 tb_81 tb_1566 hd_X8_placeOver rfl ⟨⟨by decide, by decide⟩, by show _ + 0 ≤ 603072; omega, by show _ + 0 ≤ 7198826; omega⟩ hl.1 rfl (Nat.le_of_ble_eq_true rfl) dL_law_797 (kJ (fun r6 S5 H locs h hO hS => ?_))
  change W _ _ _ _ _ _ _ _ _ _ _ _ (_ + 0) (_ + 0) _ _
  refine lv_lstore C0.1 C0.2.1 dL_law_800 hl (by decide) rfl (fun ls hl => ?_)
  refine lv_aload_n C0.1 C0.2.1 dL_law_802 rfl (lv_at hl 4 rfl) ?_
  obtain ⟨i10, h⟩ := h
  refine c_V C0 hO hS (mX8_thrown h) i10 (by decide) rfl rfl tb_1443 tb_1444 tb_1445 tb_81 tb_1446 hd_X8_thrown rfl ⟨⟨by decide, by decide⟩, by show _ + 0 ≤ 603072; omega, by show _ + 0 ≤ 7198826; omega⟩ hl.1 rfl (Nat.le_of_ble_eq_true rfl) dL_law_803 (kI (fun r9 S8 H locs h hO hS => ?_))
  change W _ _ _ _ _ _ _ _ _ _ _ _ (_ + 0) (_ + 0) _ _
  refine lv_iload C0.1 C0.2.1 dL_law_806 (lv_at hl 1 rfl) ?_
  refine lv_icmp_eq (tgt := 813) C0.1 C0.2.1 dL_law_808 (by decide) (fun c11 => ?_) (fun c11 => ?_)
  · replace h := h.1 c11
    refine lv_iload C0.1 C0.2.1 dL_law_813 (lv_at hl 1 rfl) ?_
    refine lv_if_ne (tgt := 829) C0.1 C0.2.1 dL_law_815 (by decide) (fun c12 => ?_) (fun c12 => ?_)
    · replace h := h.1 c12
      exact bL_law_b829 C0 Y hl9 hX9 hbl9 hbA9 hend9 hk28 _ _ _ _ _ _ _ _ _ _ _ h hO hS (lv_sub hl [2, 3, 4, 5, 6, 7] rfl) (by clear h; omega) (by clear h; omega)
    · replace h := h.2 c12
      refine lv_aload_n C0.1 C0.2.1 dL_law_818 rfl (lv_at hl 5 rfl) ?_
      refine lv_iconst (v := 0) C0.1 C0.2.1 dL_law_819 (by decide) ?_
      obtain ⟨i13, h⟩ := h
      obtain ⟨e14, h⟩ := h
      refine r_lald C0 hO i13 e14 dL_law_820 ?_
      refine lv_lload C0.1 C0.2.1 dL_law_821 (lv_at hl 0 rfl) ?_
      refine W.lcmp C0.1 C0.2.1 dL_law_823 ?_
      refine lv_if_eq (tgt := 829) C0.1 C0.2.1 dL_law_824 (by decide) (fun c15 => ?_) (fun c15 => ?_)
      · replace h := h.1 c15
        exact bL_law_b829 C0 Y hl9 hX9 hbl9 hbA9 hend9 hk28 _ _ _ _ _ _ _ _ _ _ _ h hO hS (lv_sub hl [2, 3, 4, 5, 6, 7] rfl) (by clear h; omega) (by clear h; omega)
      · replace h := h.2 c15
        refine lv_iconst (v := 0) C0.1 C0.2.1 dL_law_827 (by decide) ?_
        exact h.elim
  · replace h := h.2 c11
    refine lv_iconst (v := 0) C0.1 C0.2.1 dL_law_811 (by decide) ?_
    exact h.elim
def wL_law_b884 (x0 : (Nat → Int32)) (L9 : Nat) (k28 : Hp → Nat → Nat → Nat → Nat → Int32 → Prop) (S : Hp) (v1 : Nat) (v2 : Nat) (v3 : Nat) (v4 : Nat) (v5 : Int32) : Prop := wL_law_b3146 x0 L9 k28 S v1 v2 v3 v4 v5
set_option maxHeartbeats 4000000 in
set_option maxRecDepth 100000 in
theorem bL_law_b884 {p : Program} {l : Launch} {e : Env} {s : State} {m : MethodId} {args : Array Value} {below : List Frame} {meth : Method} {c : Code} {G : Gw} {b9 : Nat} {Q : State → Prop} {x0 : (Nat → Int32)} {L9 : Nat} (C0 : Mx p s m c code 9 args yL_law.cls G) (Y : My meth (some .boolean)) (hl9 : l.stackTraces = false) (hX9 : va_X b9 L9 x0 s s.heap) (hbl9 : b9 < s.heap.size) (hbA9 : ¬ Ab G.b b9) (hend9 : ∀ (pc : Nat) (H : Heap) (locs : List Loc) (ls : Array Slot) (cells slots : Nat), decode code pc = .ok (.ireturn, 1) → va_S (Ab G.b) s.heap H locs → cells ≤ 603072 → slots ≤ 7198826 → W p l e room_1 s m args below meth c H locs cells slots Q (F0 m pc ls [.int 1])) {n9_28 : Nat} {k28 : Hp → Nat → Nat → Nat → Nat → Int32 → Prop} (hk28 : ∀ (S : Hp) (v1 : Nat) (v2 : Nat) (v3 : Nat) (v4 : Nat) (v5 : Int32) (H : Heap) (locs : List Loc) (ls : Array Slot) (cells slots : Nat), k28 S v1 v2 v3 v4 v5 → Ok G S H → va_S (Ab G.b) s.heap H locs → lv_has ls 9 [(0, .ref b9), (1, .ref v1), (2, .ref v2), (3, .ref v3), (4, .ref v4), (5, .int v5)] → cells + (n9_28 * 97 + 97) ≤ 603072 → slots + (n9_28 * 2225 + 2225) ≤ 7198826 → W p l e room_1 s m args below meth c H locs cells slots Q (F0 m 28 ls [])) : ∀ (S : Hp) (v1 : Nat) (v2 : Nat) (v3 : Nat) (v4 : Nat) (v5 : Int32) (H : Heap) (locs : List Loc) (ls : Array Slot) (cells slots : Nat), wL_law_b884 x0 L9 k28 S v1 v2 v3 v4 v5 → Ok G S H → va_S (Ab G.b) s.heap H locs → lv_has ls 9 [(0, .ref b9), (1, .ref v1), (2, .ref v2), (3, .ref v3), (4, .ref v4), (5, .int v5)] → cells + (n9_28 * 97 + 97) ≤ 603072 → slots + (n9_28 * 2225 + 2225) ≤ 7198826 → W p l e room_1 s m args below meth c H locs cells slots Q (F0 m 884 ls []) := by
  intro S v1 v2 v3 v4 v5 H locs ls cells slots h hO hS hl hcc hss
  unfold wL_law_b884 at h
  refine lv_goto (tgt := 3146) C0.1 C0.2.1 dL_law_884 (by decide) ?_
  exact bL_law_b3146 C0 Y hl9 hX9 hbl9 hbA9 hend9 hk28 _ _ _ _ _ _ _ _ _ _ _ h hO hS (lv_sub hl [0, 1, 2, 3, 4, 5] rfl) (by clear h; omega) (by clear h; omega)
def wL_law_b832 (x0 : (Nat → Int32)) (L9 : Nat) (k28 : Hp → Nat → Nat → Nat → Nat → Int32 → Prop) (S : Hp) (v1 : Nat) (v2 : Nat) (v3 : Nat) (v4 : Nat) (v5 : Int32) : Prop := vp_in (v5 + 1) L9 ∧ wL_placeUnder S v1 (x0 (v5 + 1).toNatClampNeg) v3 (fun S2 r3 => vp_in (v5 + 1) L9 ∧ isA S2 v2 8 ∧ wX8_placeUnder S2 v2 (x0 (v5 + 1).toNatClampNeg) (fun S5 r6 => isA S5 v2 8 ∧ wX8_thrown S5 v2 (fun S8 r9 => ((r9 = r3 → ((¬ r3 = 0 → wL_law_b884 x0 L9 k28 S8 v1 v2 v3 v4 v5) ∧ (r3 = 0 → isA S8 v3 22 ∧ vp_in 0 (S8.N v3) ∧ (((lg_cmp (S8.AJ v3 ((0 : Int32).toNatClampNeg)) r6) = 0 → wL_law_b884 x0 L9 k28 S8 v1 v2 v3 v4 v5) ∧ (¬ ((lg_cmp (S8.AJ v3 ((0 : Int32).toNatClampNeg)) r6) = 0) → False))))) ∧ (¬ (r9 = r3) → False)))))
set_option maxHeartbeats 4000000 in
set_option maxRecDepth 100000 in
theorem bL_law_b832 {p : Program} {l : Launch} {e : Env} {s : State} {m : MethodId} {args : Array Value} {below : List Frame} {meth : Method} {c : Code} {G : Gw} {b9 : Nat} {Q : State → Prop} {x0 : (Nat → Int32)} {L9 : Nat} (C0 : Mx p s m c code 9 args yL_law.cls G) (Y : My meth (some .boolean)) (hl9 : l.stackTraces = false) (hX9 : va_X b9 L9 x0 s s.heap) (hbl9 : b9 < s.heap.size) (hbA9 : ¬ Ab G.b b9) (hend9 : ∀ (pc : Nat) (H : Heap) (locs : List Loc) (ls : Array Slot) (cells slots : Nat), decode code pc = .ok (.ireturn, 1) → va_S (Ab G.b) s.heap H locs → cells ≤ 603072 → slots ≤ 7198826 → W p l e room_1 s m args below meth c H locs cells slots Q (F0 m pc ls [.int 1])) {n9_28 : Nat} {k28 : Hp → Nat → Nat → Nat → Nat → Int32 → Prop} (hk28 : ∀ (S : Hp) (v1 : Nat) (v2 : Nat) (v3 : Nat) (v4 : Nat) (v5 : Int32) (H : Heap) (locs : List Loc) (ls : Array Slot) (cells slots : Nat), k28 S v1 v2 v3 v4 v5 → Ok G S H → va_S (Ab G.b) s.heap H locs → lv_has ls 9 [(0, .ref b9), (1, .ref v1), (2, .ref v2), (3, .ref v3), (4, .ref v4), (5, .int v5)] → cells + (n9_28 * 97 + 97) ≤ 603072 → slots + (n9_28 * 2225 + 2225) ≤ 7198826 → W p l e room_1 s m args below meth c H locs cells slots Q (F0 m 28 ls [])) : ∀ (S : Hp) (v1 : Nat) (v2 : Nat) (v3 : Nat) (v4 : Nat) (v5 : Int32) (H : Heap) (locs : List Loc) (ls : Array Slot) (cells slots : Nat), wL_law_b832 x0 L9 k28 S v1 v2 v3 v4 v5 → Ok G S H → va_S (Ab G.b) s.heap H locs → lv_has ls 9 [(0, .ref b9), (1, .ref v1), (2, .ref v2), (3, .ref v3), (4, .ref v4), (5, .int v5)] → cells + (n9_28 * 97 + 98) ≤ 603072 → slots + (n9_28 * 2225 + 2231) ≤ 7198826 → W p l e room_1 s m args below meth c H locs cells slots Q (F0 m 832 ls []) := by
  intro S v1 v2 v3 v4 v5 H locs ls cells slots h hO hS hl hcc hss
  unfold wL_law_b832 at h
  refine lv_aload_n C0.1 C0.2.1 dL_law_832 rfl (lv_at hl 1 rfl) ?_
  refine lv_aload_n C0.1 C0.2.1 dL_law_833 rfl (lv_at hl 0 rfl) ?_
  refine lv_iload C0.1 C0.2.1 dL_law_834 (lv_at hl 5 rfl) ?_
  refine lv_iconst (v := 1) C0.1 C0.2.1 dL_law_836 (by decide) ?_
  refine lv_iadd C0.1 C0.2.1 dL_law_837 ?_
  obtain ⟨e1, h⟩ := h
  refine va_sld C0.1 C0.2.1 hX9 hbl9 hbA9 hS e1 dL_law_838 ?_
  refine lv_aload_n C0.1 C0.2.1 dL_law_839 rfl (lv_at hl 3 rfl) ?_
  refine c_SW C0 hO hS (mL_placeUnder hl9 h) tb_858 tb_859 tb_73 tb_860 hd_L_placeUnder rfl ⟨⟨by decide, by decide⟩, by show _ + 1 ≤ 603072; omega, by show _ + 6 ≤ 7198826; omega⟩ hl.1 rfl (Nat.le_of_ble_eq_true rfl) dL_law_840 (kI (fun r3 S2 H locs h hO hS => ?_))
  change W _ _ _ _ _ _ _ _ _ _ _ _ (_ + 1) (_ + 6) _ _
  refine lv_istore C0.1 C0.2.1 dL_law_843 hl (by decide) rfl (fun ls hl => ?_)
  refine lv_aload_n C0.1 C0.2.1 dL_law_845 rfl (lv_at hl 3 rfl) ?_
  refine lv_aload_n C0.1 C0.2.1 dL_law_846 rfl (lv_at hl 1 rfl) ?_
  refine lv_iload C0.1 C0.2.1 dL_law_847 (lv_at hl 6 rfl) ?_
  refine lv_iconst (v := 1) C0.1 C0.2.1 dL_law_849 (by decide) ?_
  refine lv_iadd C0.1 C0.2.1 dL_law_850 ?_
  obtain ⟨e4, h⟩ := h
  refine va_sld C0.1 C0.2.1 hX9 hbl9 hbA9 hS e4 dL_law_851 ?_
  obtain ⟨i7, h⟩ := h
  refine c_V C0 hO hS (mX8_placeUnder h) i7 (by decide) rfl rfl tb_1567 tb_1568 tb_1569 tb_81 tb_1570 hd_X8_placeUnder rfl ⟨⟨by decide, by decide⟩, by show _ + 0 ≤ 603072; omega, by show _ + 0 ≤ 7198826; omega⟩ hl.1 rfl (Nat.le_of_ble_eq_true rfl) dL_law_852 (kJ (fun r6 S5 H locs h hO hS => ?_))
  change W _ _ _ _ _ _ _ _ _ _ _ _ (_ + 0) (_ + 0) _ _
  refine lv_lstore C0.1 C0.2.1 dL_law_855 hl (by decide) rfl (fun ls hl => ?_)
  refine lv_aload_n C0.1 C0.2.1 dL_law_857 rfl (lv_at hl 4 rfl) ?_
  obtain ⟨i10, h⟩ := h
  refine c_V C0 hO hS (mX8_thrown h) i10 (by decide) rfl rfl tb_1443 tb_1444 tb_1445 tb_81 tb_1446 hd_X8_thrown rfl ⟨⟨by decide, by decide⟩, by show _ + 0 ≤ 603072; omega, by show _ + 0 ≤ 7198826; omega⟩ hl.1 rfl (Nat.le_of_ble_eq_true rfl) dL_law_858 (kI (fun r9 S8 H locs h hO hS => ?_))
  change W _ _ _ _ _ _ _ _ _ _ _ _ (_ + 0) (_ + 0) _ _
  refine lv_iload C0.1 C0.2.1 dL_law_861 (lv_at hl 1 rfl) ?_
  refine lv_icmp_eq (tgt := 868) C0.1 C0.2.1 dL_law_863 (by decide) (fun c11 => ?_) (fun c11 => ?_)
  · replace h := h.1 c11
    refine lv_iload C0.1 C0.2.1 dL_law_868 (lv_at hl 1 rfl) ?_
    refine lv_if_ne (tgt := 884) C0.1 C0.2.1 dL_law_870 (by decide) (fun c12 => ?_) (fun c12 => ?_)
    · replace h := h.1 c12
      exact bL_law_b884 C0 Y hl9 hX9 hbl9 hbA9 hend9 hk28 _ _ _ _ _ _ _ _ _ _ _ h hO hS (lv_sub hl [2, 3, 4, 5, 6, 7] rfl) (by clear h; omega) (by clear h; omega)
    · replace h := h.2 c12
      refine lv_aload_n C0.1 C0.2.1 dL_law_873 rfl (lv_at hl 5 rfl) ?_
      refine lv_iconst (v := 0) C0.1 C0.2.1 dL_law_874 (by decide) ?_
      obtain ⟨i13, h⟩ := h
      obtain ⟨e14, h⟩ := h
      refine r_lald C0 hO i13 e14 dL_law_875 ?_
      refine lv_lload C0.1 C0.2.1 dL_law_876 (lv_at hl 0 rfl) ?_
      refine W.lcmp C0.1 C0.2.1 dL_law_878 ?_
      refine lv_if_eq (tgt := 884) C0.1 C0.2.1 dL_law_879 (by decide) (fun c15 => ?_) (fun c15 => ?_)
      · replace h := h.1 c15
        exact bL_law_b884 C0 Y hl9 hX9 hbl9 hbA9 hend9 hk28 _ _ _ _ _ _ _ _ _ _ _ h hO hS (lv_sub hl [2, 3, 4, 5, 6, 7] rfl) (by clear h; omega) (by clear h; omega)
      · replace h := h.2 c15
        refine lv_iconst (v := 0) C0.1 C0.2.1 dL_law_882 (by decide) ?_
        exact h.elim
  · replace h := h.2 c11
    refine lv_iconst (v := 0) C0.1 C0.2.1 dL_law_866 (by decide) ?_
    exact h.elim
def wL_law_b951 (x0 : (Nat → Int32)) (L9 : Nat) (k28 : Hp → Nat → Nat → Nat → Nat → Int32 → Prop) (S : Hp) (v1 : Nat) (v2 : Nat) (v3 : Nat) (v4 : Nat) (v5 : Int32) : Prop := wL_law_b3146 x0 L9 k28 S v1 v2 v3 v4 v5
set_option maxHeartbeats 4000000 in
set_option maxRecDepth 100000 in
theorem bL_law_b951 {p : Program} {l : Launch} {e : Env} {s : State} {m : MethodId} {args : Array Value} {below : List Frame} {meth : Method} {c : Code} {G : Gw} {b9 : Nat} {Q : State → Prop} {x0 : (Nat → Int32)} {L9 : Nat} (C0 : Mx p s m c code 9 args yL_law.cls G) (Y : My meth (some .boolean)) (hl9 : l.stackTraces = false) (hX9 : va_X b9 L9 x0 s s.heap) (hbl9 : b9 < s.heap.size) (hbA9 : ¬ Ab G.b b9) (hend9 : ∀ (pc : Nat) (H : Heap) (locs : List Loc) (ls : Array Slot) (cells slots : Nat), decode code pc = .ok (.ireturn, 1) → va_S (Ab G.b) s.heap H locs → cells ≤ 603072 → slots ≤ 7198826 → W p l e room_1 s m args below meth c H locs cells slots Q (F0 m pc ls [.int 1])) {n9_28 : Nat} {k28 : Hp → Nat → Nat → Nat → Nat → Int32 → Prop} (hk28 : ∀ (S : Hp) (v1 : Nat) (v2 : Nat) (v3 : Nat) (v4 : Nat) (v5 : Int32) (H : Heap) (locs : List Loc) (ls : Array Slot) (cells slots : Nat), k28 S v1 v2 v3 v4 v5 → Ok G S H → va_S (Ab G.b) s.heap H locs → lv_has ls 9 [(0, .ref b9), (1, .ref v1), (2, .ref v2), (3, .ref v3), (4, .ref v4), (5, .int v5)] → cells + (n9_28 * 97 + 97) ≤ 603072 → slots + (n9_28 * 2225 + 2225) ≤ 7198826 → W p l e room_1 s m args below meth c H locs cells slots Q (F0 m 28 ls [])) : ∀ (S : Hp) (v1 : Nat) (v2 : Nat) (v3 : Nat) (v4 : Nat) (v5 : Int32) (H : Heap) (locs : List Loc) (ls : Array Slot) (cells slots : Nat), wL_law_b951 x0 L9 k28 S v1 v2 v3 v4 v5 → Ok G S H → va_S (Ab G.b) s.heap H locs → lv_has ls 9 [(0, .ref b9), (1, .ref v1), (2, .ref v2), (3, .ref v3), (4, .ref v4), (5, .int v5)] → cells + (n9_28 * 97 + 97) ≤ 603072 → slots + (n9_28 * 2225 + 2225) ≤ 7198826 → W p l e room_1 s m args below meth c H locs cells slots Q (F0 m 951 ls []) := by
  intro S v1 v2 v3 v4 v5 H locs ls cells slots h hO hS hl hcc hss
  unfold wL_law_b951 at h
  refine lv_goto (tgt := 3146) C0.1 C0.2.1 dL_law_951 (by decide) ?_
  exact bL_law_b3146 C0 Y hl9 hX9 hbl9 hbA9 hend9 hk28 _ _ _ _ _ _ _ _ _ _ _ h hO hS (lv_sub hl [0, 1, 2, 3, 4, 5] rfl) (by clear h; omega) (by clear h; omega)
def wL_law_b887 (x0 : (Nat → Int32)) (L9 : Nat) (k28 : Hp → Nat → Nat → Nat → Nat → Int32 → Prop) (S : Hp) (v1 : Nat) (v2 : Nat) (v3 : Nat) (v4 : Nat) (v5 : Int32) : Prop := vp_in (v5 + 1) L9 ∧ vp_in (v5 + 2) L9 ∧ wL_ratioOver S v1 (x0 (v5 + 1).toNatClampNeg) (x0 (v5 + 2).toNatClampNeg) v3 (fun S3 r4 => vp_in (v5 + 1) L9 ∧ vp_in (v5 + 2) L9 ∧ isA S3 v2 8 ∧ wX8_ratioOver S3 v2 (x0 (v5 + 1).toNatClampNeg) (x0 (v5 + 2).toNatClampNeg) (fun S7 r8 => isA S7 v2 8 ∧ wX8_thrown S7 v2 (fun S10 r11 => ((r11 = r4 → ((¬ r4 = 0 → wL_law_b951 x0 L9 k28 S10 v1 v2 v3 v4 v5) ∧ (r4 = 0 → isA S10 v3 22 ∧ vp_in 0 (S10.N v3) ∧ (((lg_cmp (S10.AJ v3 ((0 : Int32).toNatClampNeg)) r8) = 0 → wL_law_b951 x0 L9 k28 S10 v1 v2 v3 v4 v5) ∧ (¬ ((lg_cmp (S10.AJ v3 ((0 : Int32).toNatClampNeg)) r8) = 0) → False))))) ∧ (¬ (r11 = r4) → False)))))
set_option maxHeartbeats 4000000 in
set_option maxRecDepth 100000 in
theorem bL_law_b887 {p : Program} {l : Launch} {e : Env} {s : State} {m : MethodId} {args : Array Value} {below : List Frame} {meth : Method} {c : Code} {G : Gw} {b9 : Nat} {Q : State → Prop} {x0 : (Nat → Int32)} {L9 : Nat} (C0 : Mx p s m c code 9 args yL_law.cls G) (Y : My meth (some .boolean)) (hl9 : l.stackTraces = false) (hX9 : va_X b9 L9 x0 s s.heap) (hbl9 : b9 < s.heap.size) (hbA9 : ¬ Ab G.b b9) (hend9 : ∀ (pc : Nat) (H : Heap) (locs : List Loc) (ls : Array Slot) (cells slots : Nat), decode code pc = .ok (.ireturn, 1) → va_S (Ab G.b) s.heap H locs → cells ≤ 603072 → slots ≤ 7198826 → W p l e room_1 s m args below meth c H locs cells slots Q (F0 m pc ls [.int 1])) {n9_28 : Nat} {k28 : Hp → Nat → Nat → Nat → Nat → Int32 → Prop} (hk28 : ∀ (S : Hp) (v1 : Nat) (v2 : Nat) (v3 : Nat) (v4 : Nat) (v5 : Int32) (H : Heap) (locs : List Loc) (ls : Array Slot) (cells slots : Nat), k28 S v1 v2 v3 v4 v5 → Ok G S H → va_S (Ab G.b) s.heap H locs → lv_has ls 9 [(0, .ref b9), (1, .ref v1), (2, .ref v2), (3, .ref v3), (4, .ref v4), (5, .int v5)] → cells + (n9_28 * 97 + 97) ≤ 603072 → slots + (n9_28 * 2225 + 2225) ≤ 7198826 → W p l e room_1 s m args below meth c H locs cells slots Q (F0 m 28 ls [])) : ∀ (S : Hp) (v1 : Nat) (v2 : Nat) (v3 : Nat) (v4 : Nat) (v5 : Int32) (H : Heap) (locs : List Loc) (ls : Array Slot) (cells slots : Nat), wL_law_b887 x0 L9 k28 S v1 v2 v3 v4 v5 → Ok G S H → va_S (Ab G.b) s.heap H locs → lv_has ls 9 [(0, .ref b9), (1, .ref v1), (2, .ref v2), (3, .ref v3), (4, .ref v4), (5, .int v5)] → cells + (n9_28 * 97 + 100) ≤ 603072 → slots + (n9_28 * 2225 + 2243) ≤ 7198826 → W p l e room_1 s m args below meth c H locs cells slots Q (F0 m 887 ls []) := by
  intro S v1 v2 v3 v4 v5 H locs ls cells slots h hO hS hl hcc hss
  unfold wL_law_b887 at h
  refine lv_aload_n C0.1 C0.2.1 dL_law_887 rfl (lv_at hl 1 rfl) ?_
  refine lv_aload_n C0.1 C0.2.1 dL_law_888 rfl (lv_at hl 0 rfl) ?_
  refine lv_iload C0.1 C0.2.1 dL_law_889 (lv_at hl 5 rfl) ?_
  refine lv_iconst (v := 1) C0.1 C0.2.1 dL_law_891 (by decide) ?_
  refine lv_iadd C0.1 C0.2.1 dL_law_892 ?_
  obtain ⟨e1, h⟩ := h
  refine va_sld C0.1 C0.2.1 hX9 hbl9 hbA9 hS e1 dL_law_893 ?_
  refine lv_aload_n C0.1 C0.2.1 dL_law_894 rfl (lv_at hl 0 rfl) ?_
  refine lv_iload C0.1 C0.2.1 dL_law_895 (lv_at hl 5 rfl) ?_
  refine lv_iconst (v := 2) C0.1 C0.2.1 dL_law_897 (by decide) ?_
  refine lv_iadd C0.1 C0.2.1 dL_law_898 ?_
  obtain ⟨e2, h⟩ := h
  refine va_sld C0.1 C0.2.1 hX9 hbl9 hbA9 hS e2 dL_law_899 ?_
  refine lv_aload_n C0.1 C0.2.1 dL_law_900 rfl (lv_at hl 3 rfl) ?_
  refine c_SW C0 hO hS (mL_ratioOver hl9 h) tb_865 tb_866 tb_73 tb_867 hd_L_ratioOver rfl ⟨⟨by decide, by decide⟩, by show _ + 3 ≤ 603072; omega, by show _ + 18 ≤ 7198826; omega⟩ hl.1 rfl (Nat.le_of_ble_eq_true rfl) dL_law_901 (kI (fun r4 S3 H locs h hO hS => ?_))
  change W _ _ _ _ _ _ _ _ _ _ _ _ (_ + 3) (_ + 18) _ _
  refine lv_istore C0.1 C0.2.1 dL_law_904 hl (by decide) rfl (fun ls hl => ?_)
  refine lv_aload_n C0.1 C0.2.1 dL_law_906 rfl (lv_at hl 3 rfl) ?_
  refine lv_aload_n C0.1 C0.2.1 dL_law_907 rfl (lv_at hl 1 rfl) ?_
  refine lv_iload C0.1 C0.2.1 dL_law_908 (lv_at hl 6 rfl) ?_
  refine lv_iconst (v := 1) C0.1 C0.2.1 dL_law_910 (by decide) ?_
  refine lv_iadd C0.1 C0.2.1 dL_law_911 ?_
  obtain ⟨e5, h⟩ := h
  refine va_sld C0.1 C0.2.1 hX9 hbl9 hbA9 hS e5 dL_law_912 ?_
  refine lv_aload_n C0.1 C0.2.1 dL_law_913 rfl (lv_at hl 1 rfl) ?_
  refine lv_iload C0.1 C0.2.1 dL_law_914 (lv_at hl 6 rfl) ?_
  refine lv_iconst (v := 2) C0.1 C0.2.1 dL_law_916 (by decide) ?_
  refine lv_iadd C0.1 C0.2.1 dL_law_917 ?_
  obtain ⟨e6, h⟩ := h
  refine va_sld C0.1 C0.2.1 hX9 hbl9 hbA9 hS e6 dL_law_918 ?_
  obtain ⟨i9, h⟩ := h
  refine c_V C0 hO hS (mX8_ratioOver h) i9 (by decide) rfl rfl tb_1571 tb_1572 tb_1573 tb_81 tb_1574 hd_X8_ratioOver rfl ⟨⟨by decide, by decide⟩, by show _ + 0 ≤ 603072; omega, by show _ + 0 ≤ 7198826; omega⟩ hl.1 rfl (Nat.le_of_ble_eq_true rfl) dL_law_919 (kJ (fun r8 S7 H locs h hO hS => ?_))
  change W _ _ _ _ _ _ _ _ _ _ _ _ (_ + 0) (_ + 0) _ _
  refine lv_lstore C0.1 C0.2.1 dL_law_922 hl (by decide) rfl (fun ls hl => ?_)
  refine lv_aload_n C0.1 C0.2.1 dL_law_924 rfl (lv_at hl 4 rfl) ?_
  obtain ⟨i12, h⟩ := h
  refine c_V C0 hO hS (mX8_thrown h) i12 (by decide) rfl rfl tb_1443 tb_1444 tb_1445 tb_81 tb_1446 hd_X8_thrown rfl ⟨⟨by decide, by decide⟩, by show _ + 0 ≤ 603072; omega, by show _ + 0 ≤ 7198826; omega⟩ hl.1 rfl (Nat.le_of_ble_eq_true rfl) dL_law_925 (kI (fun r11 S10 H locs h hO hS => ?_))
  change W _ _ _ _ _ _ _ _ _ _ _ _ (_ + 0) (_ + 0) _ _
  refine lv_iload C0.1 C0.2.1 dL_law_928 (lv_at hl 1 rfl) ?_
  refine lv_icmp_eq (tgt := 935) C0.1 C0.2.1 dL_law_930 (by decide) (fun c13 => ?_) (fun c13 => ?_)
  · replace h := h.1 c13
    refine lv_iload C0.1 C0.2.1 dL_law_935 (lv_at hl 1 rfl) ?_
    refine lv_if_ne (tgt := 951) C0.1 C0.2.1 dL_law_937 (by decide) (fun c14 => ?_) (fun c14 => ?_)
    · replace h := h.1 c14
      exact bL_law_b951 C0 Y hl9 hX9 hbl9 hbA9 hend9 hk28 _ _ _ _ _ _ _ _ _ _ _ h hO hS (lv_sub hl [2, 3, 4, 5, 6, 7] rfl) (by clear h; omega) (by clear h; omega)
    · replace h := h.2 c14
      refine lv_aload_n C0.1 C0.2.1 dL_law_940 rfl (lv_at hl 5 rfl) ?_
      refine lv_iconst (v := 0) C0.1 C0.2.1 dL_law_941 (by decide) ?_
      obtain ⟨i15, h⟩ := h
      obtain ⟨e16, h⟩ := h
      refine r_lald C0 hO i15 e16 dL_law_942 ?_
      refine lv_lload C0.1 C0.2.1 dL_law_943 (lv_at hl 0 rfl) ?_
      refine W.lcmp C0.1 C0.2.1 dL_law_945 ?_
      refine lv_if_eq (tgt := 951) C0.1 C0.2.1 dL_law_946 (by decide) (fun c17 => ?_) (fun c17 => ?_)
      · replace h := h.1 c17
        exact bL_law_b951 C0 Y hl9 hX9 hbl9 hbA9 hend9 hk28 _ _ _ _ _ _ _ _ _ _ _ h hO hS (lv_sub hl [2, 3, 4, 5, 6, 7] rfl) (by clear h; omega) (by clear h; omega)
      · replace h := h.2 c17
        refine lv_iconst (v := 0) C0.1 C0.2.1 dL_law_949 (by decide) ?_
        exact h.elim
  · replace h := h.2 c13
    refine lv_iconst (v := 0) C0.1 C0.2.1 dL_law_933 (by decide) ?_
    exact h.elim
def wL_law_b1018 (x0 : (Nat → Int32)) (L9 : Nat) (k28 : Hp → Nat → Nat → Nat → Nat → Int32 → Prop) (S : Hp) (v1 : Nat) (v2 : Nat) (v3 : Nat) (v4 : Nat) (v5 : Int32) : Prop := wL_law_b3146 x0 L9 k28 S v1 v2 v3 v4 v5
set_option maxHeartbeats 4000000 in
set_option maxRecDepth 100000 in
theorem bL_law_b1018 {p : Program} {l : Launch} {e : Env} {s : State} {m : MethodId} {args : Array Value} {below : List Frame} {meth : Method} {c : Code} {G : Gw} {b9 : Nat} {Q : State → Prop} {x0 : (Nat → Int32)} {L9 : Nat} (C0 : Mx p s m c code 9 args yL_law.cls G) (Y : My meth (some .boolean)) (hl9 : l.stackTraces = false) (hX9 : va_X b9 L9 x0 s s.heap) (hbl9 : b9 < s.heap.size) (hbA9 : ¬ Ab G.b b9) (hend9 : ∀ (pc : Nat) (H : Heap) (locs : List Loc) (ls : Array Slot) (cells slots : Nat), decode code pc = .ok (.ireturn, 1) → va_S (Ab G.b) s.heap H locs → cells ≤ 603072 → slots ≤ 7198826 → W p l e room_1 s m args below meth c H locs cells slots Q (F0 m pc ls [.int 1])) {n9_28 : Nat} {k28 : Hp → Nat → Nat → Nat → Nat → Int32 → Prop} (hk28 : ∀ (S : Hp) (v1 : Nat) (v2 : Nat) (v3 : Nat) (v4 : Nat) (v5 : Int32) (H : Heap) (locs : List Loc) (ls : Array Slot) (cells slots : Nat), k28 S v1 v2 v3 v4 v5 → Ok G S H → va_S (Ab G.b) s.heap H locs → lv_has ls 9 [(0, .ref b9), (1, .ref v1), (2, .ref v2), (3, .ref v3), (4, .ref v4), (5, .int v5)] → cells + (n9_28 * 97 + 97) ≤ 603072 → slots + (n9_28 * 2225 + 2225) ≤ 7198826 → W p l e room_1 s m args below meth c H locs cells slots Q (F0 m 28 ls [])) : ∀ (S : Hp) (v1 : Nat) (v2 : Nat) (v3 : Nat) (v4 : Nat) (v5 : Int32) (H : Heap) (locs : List Loc) (ls : Array Slot) (cells slots : Nat), wL_law_b1018 x0 L9 k28 S v1 v2 v3 v4 v5 → Ok G S H → va_S (Ab G.b) s.heap H locs → lv_has ls 9 [(0, .ref b9), (1, .ref v1), (2, .ref v2), (3, .ref v3), (4, .ref v4), (5, .int v5)] → cells + (n9_28 * 97 + 97) ≤ 603072 → slots + (n9_28 * 2225 + 2225) ≤ 7198826 → W p l e room_1 s m args below meth c H locs cells slots Q (F0 m 1018 ls []) := by
  intro S v1 v2 v3 v4 v5 H locs ls cells slots h hO hS hl hcc hss
  unfold wL_law_b1018 at h
  refine lv_goto (tgt := 3146) C0.1 C0.2.1 dL_law_1018 (by decide) ?_
  exact bL_law_b3146 C0 Y hl9 hX9 hbl9 hbA9 hend9 hk28 _ _ _ _ _ _ _ _ _ _ _ h hO hS (lv_sub hl [0, 1, 2, 3, 4, 5] rfl) (by clear h; omega) (by clear h; omega)
def wL_law_b954 (x0 : (Nat → Int32)) (L9 : Nat) (k28 : Hp → Nat → Nat → Nat → Nat → Int32 → Prop) (S : Hp) (v1 : Nat) (v2 : Nat) (v3 : Nat) (v4 : Nat) (v5 : Int32) : Prop := vp_in (v5 + 1) L9 ∧ vp_in (v5 + 2) L9 ∧ wL_ratioUnder S v1 (x0 (v5 + 1).toNatClampNeg) (x0 (v5 + 2).toNatClampNeg) v3 (fun S3 r4 => vp_in (v5 + 1) L9 ∧ vp_in (v5 + 2) L9 ∧ isA S3 v2 8 ∧ wX8_ratioUnder S3 v2 (x0 (v5 + 1).toNatClampNeg) (x0 (v5 + 2).toNatClampNeg) (fun S7 r8 => isA S7 v2 8 ∧ wX8_thrown S7 v2 (fun S10 r11 => ((r11 = r4 → ((¬ r4 = 0 → wL_law_b1018 x0 L9 k28 S10 v1 v2 v3 v4 v5) ∧ (r4 = 0 → isA S10 v3 22 ∧ vp_in 0 (S10.N v3) ∧ (((lg_cmp (S10.AJ v3 ((0 : Int32).toNatClampNeg)) r8) = 0 → wL_law_b1018 x0 L9 k28 S10 v1 v2 v3 v4 v5) ∧ (¬ ((lg_cmp (S10.AJ v3 ((0 : Int32).toNatClampNeg)) r8) = 0) → False))))) ∧ (¬ (r11 = r4) → False)))))
set_option maxHeartbeats 4000000 in
set_option maxRecDepth 100000 in
theorem bL_law_b954 {p : Program} {l : Launch} {e : Env} {s : State} {m : MethodId} {args : Array Value} {below : List Frame} {meth : Method} {c : Code} {G : Gw} {b9 : Nat} {Q : State → Prop} {x0 : (Nat → Int32)} {L9 : Nat} (C0 : Mx p s m c code 9 args yL_law.cls G) (Y : My meth (some .boolean)) (hl9 : l.stackTraces = false) (hX9 : va_X b9 L9 x0 s s.heap) (hbl9 : b9 < s.heap.size) (hbA9 : ¬ Ab G.b b9) (hend9 : ∀ (pc : Nat) (H : Heap) (locs : List Loc) (ls : Array Slot) (cells slots : Nat), decode code pc = .ok (.ireturn, 1) → va_S (Ab G.b) s.heap H locs → cells ≤ 603072 → slots ≤ 7198826 → W p l e room_1 s m args below meth c H locs cells slots Q (F0 m pc ls [.int 1])) {n9_28 : Nat} {k28 : Hp → Nat → Nat → Nat → Nat → Int32 → Prop} (hk28 : ∀ (S : Hp) (v1 : Nat) (v2 : Nat) (v3 : Nat) (v4 : Nat) (v5 : Int32) (H : Heap) (locs : List Loc) (ls : Array Slot) (cells slots : Nat), k28 S v1 v2 v3 v4 v5 → Ok G S H → va_S (Ab G.b) s.heap H locs → lv_has ls 9 [(0, .ref b9), (1, .ref v1), (2, .ref v2), (3, .ref v3), (4, .ref v4), (5, .int v5)] → cells + (n9_28 * 97 + 97) ≤ 603072 → slots + (n9_28 * 2225 + 2225) ≤ 7198826 → W p l e room_1 s m args below meth c H locs cells slots Q (F0 m 28 ls [])) : ∀ (S : Hp) (v1 : Nat) (v2 : Nat) (v3 : Nat) (v4 : Nat) (v5 : Int32) (H : Heap) (locs : List Loc) (ls : Array Slot) (cells slots : Nat), wL_law_b954 x0 L9 k28 S v1 v2 v3 v4 v5 → Ok G S H → va_S (Ab G.b) s.heap H locs → lv_has ls 9 [(0, .ref b9), (1, .ref v1), (2, .ref v2), (3, .ref v3), (4, .ref v4), (5, .int v5)] → cells + (n9_28 * 97 + 100) ≤ 603072 → slots + (n9_28 * 2225 + 2243) ≤ 7198826 → W p l e room_1 s m args below meth c H locs cells slots Q (F0 m 954 ls []) := by
  intro S v1 v2 v3 v4 v5 H locs ls cells slots h hO hS hl hcc hss
  unfold wL_law_b954 at h
  refine lv_aload_n C0.1 C0.2.1 dL_law_954 rfl (lv_at hl 1 rfl) ?_
  refine lv_aload_n C0.1 C0.2.1 dL_law_955 rfl (lv_at hl 0 rfl) ?_
  refine lv_iload C0.1 C0.2.1 dL_law_956 (lv_at hl 5 rfl) ?_
  refine lv_iconst (v := 1) C0.1 C0.2.1 dL_law_958 (by decide) ?_
  refine lv_iadd C0.1 C0.2.1 dL_law_959 ?_
  obtain ⟨e1, h⟩ := h
  refine va_sld C0.1 C0.2.1 hX9 hbl9 hbA9 hS e1 dL_law_960 ?_
  refine lv_aload_n C0.1 C0.2.1 dL_law_961 rfl (lv_at hl 0 rfl) ?_
  refine lv_iload C0.1 C0.2.1 dL_law_962 (lv_at hl 5 rfl) ?_
  refine lv_iconst (v := 2) C0.1 C0.2.1 dL_law_964 (by decide) ?_
  refine lv_iadd C0.1 C0.2.1 dL_law_965 ?_
  obtain ⟨e2, h⟩ := h
  refine va_sld C0.1 C0.2.1 hX9 hbl9 hbA9 hS e2 dL_law_966 ?_
  refine lv_aload_n C0.1 C0.2.1 dL_law_967 rfl (lv_at hl 3 rfl) ?_
  refine c_SW C0 hO hS (mL_ratioUnder hl9 h) tb_890 tb_891 tb_73 tb_892 hd_L_ratioUnder rfl ⟨⟨by decide, by decide⟩, by show _ + 3 ≤ 603072; omega, by show _ + 18 ≤ 7198826; omega⟩ hl.1 rfl (Nat.le_of_ble_eq_true rfl) dL_law_968 (kI (fun r4 S3 H locs h hO hS => ?_))
  change W _ _ _ _ _ _ _ _ _ _ _ _ (_ + 3) (_ + 18) _ _
  refine lv_istore C0.1 C0.2.1 dL_law_971 hl (by decide) rfl (fun ls hl => ?_)
  refine lv_aload_n C0.1 C0.2.1 dL_law_973 rfl (lv_at hl 3 rfl) ?_
  refine lv_aload_n C0.1 C0.2.1 dL_law_974 rfl (lv_at hl 1 rfl) ?_
  refine lv_iload C0.1 C0.2.1 dL_law_975 (lv_at hl 6 rfl) ?_
  refine lv_iconst (v := 1) C0.1 C0.2.1 dL_law_977 (by decide) ?_
  refine lv_iadd C0.1 C0.2.1 dL_law_978 ?_
  obtain ⟨e5, h⟩ := h
  refine va_sld C0.1 C0.2.1 hX9 hbl9 hbA9 hS e5 dL_law_979 ?_
  refine lv_aload_n C0.1 C0.2.1 dL_law_980 rfl (lv_at hl 1 rfl) ?_
  refine lv_iload C0.1 C0.2.1 dL_law_981 (lv_at hl 6 rfl) ?_
  refine lv_iconst (v := 2) C0.1 C0.2.1 dL_law_983 (by decide) ?_
  refine lv_iadd C0.1 C0.2.1 dL_law_984 ?_
  obtain ⟨e6, h⟩ := h
  refine va_sld C0.1 C0.2.1 hX9 hbl9 hbA9 hS e6 dL_law_985 ?_
  obtain ⟨i9, h⟩ := h
  refine c_V C0 hO hS (mX8_ratioUnder h) i9 (by decide) rfl rfl tb_1587 tb_1588 tb_1589 tb_81 tb_1590 hd_X8_ratioUnder rfl ⟨⟨by decide, by decide⟩, by show _ + 0 ≤ 603072; omega, by show _ + 0 ≤ 7198826; omega⟩ hl.1 rfl (Nat.le_of_ble_eq_true rfl) dL_law_986 (kJ (fun r8 S7 H locs h hO hS => ?_))
  change W _ _ _ _ _ _ _ _ _ _ _ _ (_ + 0) (_ + 0) _ _
  refine lv_lstore C0.1 C0.2.1 dL_law_989 hl (by decide) rfl (fun ls hl => ?_)
  refine lv_aload_n C0.1 C0.2.1 dL_law_991 rfl (lv_at hl 4 rfl) ?_
  obtain ⟨i12, h⟩ := h
  refine c_V C0 hO hS (mX8_thrown h) i12 (by decide) rfl rfl tb_1443 tb_1444 tb_1445 tb_81 tb_1446 hd_X8_thrown rfl ⟨⟨by decide, by decide⟩, by show _ + 0 ≤ 603072; omega, by show _ + 0 ≤ 7198826; omega⟩ hl.1 rfl (Nat.le_of_ble_eq_true rfl) dL_law_992 (kI (fun r11 S10 H locs h hO hS => ?_))
  change W _ _ _ _ _ _ _ _ _ _ _ _ (_ + 0) (_ + 0) _ _
  refine lv_iload C0.1 C0.2.1 dL_law_995 (lv_at hl 1 rfl) ?_
  refine lv_icmp_eq (tgt := 1002) C0.1 C0.2.1 dL_law_997 (by decide) (fun c13 => ?_) (fun c13 => ?_)
  · replace h := h.1 c13
    refine lv_iload C0.1 C0.2.1 dL_law_1002 (lv_at hl 1 rfl) ?_
    refine lv_if_ne (tgt := 1018) C0.1 C0.2.1 dL_law_1004 (by decide) (fun c14 => ?_) (fun c14 => ?_)
    · replace h := h.1 c14
      exact bL_law_b1018 C0 Y hl9 hX9 hbl9 hbA9 hend9 hk28 _ _ _ _ _ _ _ _ _ _ _ h hO hS (lv_sub hl [2, 3, 4, 5, 6, 7] rfl) (by clear h; omega) (by clear h; omega)
    · replace h := h.2 c14
      refine lv_aload_n C0.1 C0.2.1 dL_law_1007 rfl (lv_at hl 5 rfl) ?_
      refine lv_iconst (v := 0) C0.1 C0.2.1 dL_law_1008 (by decide) ?_
      obtain ⟨i15, h⟩ := h
      obtain ⟨e16, h⟩ := h
      refine r_lald C0 hO i15 e16 dL_law_1009 ?_
      refine lv_lload C0.1 C0.2.1 dL_law_1010 (lv_at hl 0 rfl) ?_
      refine W.lcmp C0.1 C0.2.1 dL_law_1012 ?_
      refine lv_if_eq (tgt := 1018) C0.1 C0.2.1 dL_law_1013 (by decide) (fun c17 => ?_) (fun c17 => ?_)
      · replace h := h.1 c17
        exact bL_law_b1018 C0 Y hl9 hX9 hbl9 hbA9 hend9 hk28 _ _ _ _ _ _ _ _ _ _ _ h hO hS (lv_sub hl [2, 3, 4, 5, 6, 7] rfl) (by clear h; omega) (by clear h; omega)
      · replace h := h.2 c17
        refine lv_iconst (v := 0) C0.1 C0.2.1 dL_law_1016 (by decide) ?_
        exact h.elim
  · replace h := h.2 c13
    refine lv_iconst (v := 0) C0.1 C0.2.1 dL_law_1000 (by decide) ?_
    exact h.elim
def wL_law_b1074 (x0 : (Nat → Int32)) (L9 : Nat) (k28 : Hp → Nat → Nat → Nat → Nat → Int32 → Prop) (S : Hp) (v1 : Nat) (v2 : Nat) (v3 : Nat) (v4 : Nat) (v5 : Int32) : Prop := wL_law_b3146 x0 L9 k28 S v1 v2 v3 v4 v5
set_option maxHeartbeats 4000000 in
set_option maxRecDepth 100000 in
theorem bL_law_b1074 {p : Program} {l : Launch} {e : Env} {s : State} {m : MethodId} {args : Array Value} {below : List Frame} {meth : Method} {c : Code} {G : Gw} {b9 : Nat} {Q : State → Prop} {x0 : (Nat → Int32)} {L9 : Nat} (C0 : Mx p s m c code 9 args yL_law.cls G) (Y : My meth (some .boolean)) (hl9 : l.stackTraces = false) (hX9 : va_X b9 L9 x0 s s.heap) (hbl9 : b9 < s.heap.size) (hbA9 : ¬ Ab G.b b9) (hend9 : ∀ (pc : Nat) (H : Heap) (locs : List Loc) (ls : Array Slot) (cells slots : Nat), decode code pc = .ok (.ireturn, 1) → va_S (Ab G.b) s.heap H locs → cells ≤ 603072 → slots ≤ 7198826 → W p l e room_1 s m args below meth c H locs cells slots Q (F0 m pc ls [.int 1])) {n9_28 : Nat} {k28 : Hp → Nat → Nat → Nat → Nat → Int32 → Prop} (hk28 : ∀ (S : Hp) (v1 : Nat) (v2 : Nat) (v3 : Nat) (v4 : Nat) (v5 : Int32) (H : Heap) (locs : List Loc) (ls : Array Slot) (cells slots : Nat), k28 S v1 v2 v3 v4 v5 → Ok G S H → va_S (Ab G.b) s.heap H locs → lv_has ls 9 [(0, .ref b9), (1, .ref v1), (2, .ref v2), (3, .ref v3), (4, .ref v4), (5, .int v5)] → cells + (n9_28 * 97 + 97) ≤ 603072 → slots + (n9_28 * 2225 + 2225) ≤ 7198826 → W p l e room_1 s m args below meth c H locs cells slots Q (F0 m 28 ls [])) : ∀ (S : Hp) (v1 : Nat) (v2 : Nat) (v3 : Nat) (v4 : Nat) (v5 : Int32) (H : Heap) (locs : List Loc) (ls : Array Slot) (cells slots : Nat), wL_law_b1074 x0 L9 k28 S v1 v2 v3 v4 v5 → Ok G S H → va_S (Ab G.b) s.heap H locs → lv_has ls 9 [(0, .ref b9), (1, .ref v1), (2, .ref v2), (3, .ref v3), (4, .ref v4), (5, .int v5)] → cells + (n9_28 * 97 + 97) ≤ 603072 → slots + (n9_28 * 2225 + 2225) ≤ 7198826 → W p l e room_1 s m args below meth c H locs cells slots Q (F0 m 1074 ls []) := by
  intro S v1 v2 v3 v4 v5 H locs ls cells slots h hO hS hl hcc hss
  unfold wL_law_b1074 at h
  refine lv_goto (tgt := 3146) C0.1 C0.2.1 dL_law_1074 (by decide) ?_
  exact bL_law_b3146 C0 Y hl9 hX9 hbl9 hbA9 hend9 hk28 _ _ _ _ _ _ _ _ _ _ _ h hO hS (lv_sub hl [0, 1, 2, 3, 4, 5] rfl) (by clear h; omega) (by clear h; omega)
def wL_law_b1021 (x0 : (Nat → Int32)) (L9 : Nat) (k28 : Hp → Nat → Nat → Nat → Nat → Int32 → Prop) (S : Hp) (v1 : Nat) (v2 : Nat) (v3 : Nat) (v4 : Nat) (v5 : Int32) : Prop := vp_in (v5 + 1) L9 ∧ wL_driver S v1 (x0 (v5 + 1).toNatClampNeg) v3 (fun S2 r3 => vp_in (v5 + 1) L9 ∧ isA S2 v2 8 ∧ wX8_driver S2 v2 (x0 (v5 + 1).toNatClampNeg) (fun S5 r6 => isA S5 v2 8 ∧ wX8_thrown S5 v2 (fun S8 r9 => ((r9 = r3 → ((¬ r3 = 0 → wL_law_b1074 x0 L9 k28 S8 v1 v2 v3 v4 v5) ∧ (r3 = 0 → isA S8 v3 22 ∧ vp_in 0 (S8.N v3) ∧ (((lg_cmp (S8.AJ v3 ((0 : Int32).toNatClampNeg)) r6.toInt64) = 0 → wL_law_b1074 x0 L9 k28 S8 v1 v2 v3 v4 v5) ∧ (¬ ((lg_cmp (S8.AJ v3 ((0 : Int32).toNatClampNeg)) r6.toInt64) = 0) → False))))) ∧ (¬ (r9 = r3) → False)))))
set_option maxHeartbeats 4000000 in
set_option maxRecDepth 100000 in
theorem bL_law_b1021 {p : Program} {l : Launch} {e : Env} {s : State} {m : MethodId} {args : Array Value} {below : List Frame} {meth : Method} {c : Code} {G : Gw} {b9 : Nat} {Q : State → Prop} {x0 : (Nat → Int32)} {L9 : Nat} (C0 : Mx p s m c code 9 args yL_law.cls G) (Y : My meth (some .boolean)) (hl9 : l.stackTraces = false) (hX9 : va_X b9 L9 x0 s s.heap) (hbl9 : b9 < s.heap.size) (hbA9 : ¬ Ab G.b b9) (hend9 : ∀ (pc : Nat) (H : Heap) (locs : List Loc) (ls : Array Slot) (cells slots : Nat), decode code pc = .ok (.ireturn, 1) → va_S (Ab G.b) s.heap H locs → cells ≤ 603072 → slots ≤ 7198826 → W p l e room_1 s m args below meth c H locs cells slots Q (F0 m pc ls [.int 1])) {n9_28 : Nat} {k28 : Hp → Nat → Nat → Nat → Nat → Int32 → Prop} (hk28 : ∀ (S : Hp) (v1 : Nat) (v2 : Nat) (v3 : Nat) (v4 : Nat) (v5 : Int32) (H : Heap) (locs : List Loc) (ls : Array Slot) (cells slots : Nat), k28 S v1 v2 v3 v4 v5 → Ok G S H → va_S (Ab G.b) s.heap H locs → lv_has ls 9 [(0, .ref b9), (1, .ref v1), (2, .ref v2), (3, .ref v3), (4, .ref v4), (5, .int v5)] → cells + (n9_28 * 97 + 97) ≤ 603072 → slots + (n9_28 * 2225 + 2225) ≤ 7198826 → W p l e room_1 s m args below meth c H locs cells slots Q (F0 m 28 ls [])) : ∀ (S : Hp) (v1 : Nat) (v2 : Nat) (v3 : Nat) (v4 : Nat) (v5 : Int32) (H : Heap) (locs : List Loc) (ls : Array Slot) (cells slots : Nat), wL_law_b1021 x0 L9 k28 S v1 v2 v3 v4 v5 → Ok G S H → va_S (Ab G.b) s.heap H locs → lv_has ls 9 [(0, .ref b9), (1, .ref v1), (2, .ref v2), (3, .ref v3), (4, .ref v4), (5, .int v5)] → cells + (n9_28 * 97 + 99) ≤ 603072 → slots + (n9_28 * 2225 + 2237) ≤ 7198826 → W p l e room_1 s m args below meth c H locs cells slots Q (F0 m 1021 ls []) := by
  intro S v1 v2 v3 v4 v5 H locs ls cells slots h hO hS hl hcc hss
  unfold wL_law_b1021 at h
  refine lv_aload_n C0.1 C0.2.1 dL_law_1021 rfl (lv_at hl 1 rfl) ?_
  refine lv_aload_n C0.1 C0.2.1 dL_law_1022 rfl (lv_at hl 0 rfl) ?_
  refine lv_iload C0.1 C0.2.1 dL_law_1023 (lv_at hl 5 rfl) ?_
  refine lv_iconst (v := 1) C0.1 C0.2.1 dL_law_1025 (by decide) ?_
  refine lv_iadd C0.1 C0.2.1 dL_law_1026 ?_
  obtain ⟨e1, h⟩ := h
  refine va_sld C0.1 C0.2.1 hX9 hbl9 hbA9 hS e1 dL_law_1027 ?_
  refine lv_aload_n C0.1 C0.2.1 dL_law_1028 rfl (lv_at hl 3 rfl) ?_
  refine c_SW C0 hO hS (mL_driver hl9 h) tb_897 tb_898 tb_73 tb_899 hd_L_driver rfl ⟨⟨by decide, by decide⟩, by show _ + 2 ≤ 603072; omega, by show _ + 12 ≤ 7198826; omega⟩ hl.1 rfl (Nat.le_of_ble_eq_true rfl) dL_law_1029 (kI (fun r3 S2 H locs h hO hS => ?_))
  change W _ _ _ _ _ _ _ _ _ _ _ _ (_ + 2) (_ + 12) _ _
  refine lv_istore C0.1 C0.2.1 dL_law_1032 hl (by decide) rfl (fun ls hl => ?_)
  refine lv_aload_n C0.1 C0.2.1 dL_law_1034 rfl (lv_at hl 3 rfl) ?_
  refine lv_aload_n C0.1 C0.2.1 dL_law_1035 rfl (lv_at hl 1 rfl) ?_
  refine lv_iload C0.1 C0.2.1 dL_law_1036 (lv_at hl 6 rfl) ?_
  refine lv_iconst (v := 1) C0.1 C0.2.1 dL_law_1038 (by decide) ?_
  refine lv_iadd C0.1 C0.2.1 dL_law_1039 ?_
  obtain ⟨e4, h⟩ := h
  refine va_sld C0.1 C0.2.1 hX9 hbl9 hbA9 hS e4 dL_law_1040 ?_
  obtain ⟨i7, h⟩ := h
  refine c_V C0 hO hS (mX8_driver h) i7 (by decide) rfl rfl tb_1591 tb_1592 tb_1593 tb_81 tb_1594 hd_X8_driver rfl ⟨⟨by decide, by decide⟩, by show _ + 0 ≤ 603072; omega, by show _ + 0 ≤ 7198826; omega⟩ hl.1 rfl (Nat.le_of_ble_eq_true rfl) dL_law_1041 (kI (fun r6 S5 H locs h hO hS => ?_))
  change W _ _ _ _ _ _ _ _ _ _ _ _ (_ + 0) (_ + 0) _ _
  refine lv_istore C0.1 C0.2.1 dL_law_1044 hl (by decide) rfl (fun ls hl => ?_)
  refine lv_aload_n C0.1 C0.2.1 dL_law_1046 rfl (lv_at hl 4 rfl) ?_
  obtain ⟨i10, h⟩ := h
  refine c_V C0 hO hS (mX8_thrown h) i10 (by decide) rfl rfl tb_1443 tb_1444 tb_1445 tb_81 tb_1446 hd_X8_thrown rfl ⟨⟨by decide, by decide⟩, by show _ + 0 ≤ 603072; omega, by show _ + 0 ≤ 7198826; omega⟩ hl.1 rfl (Nat.le_of_ble_eq_true rfl) dL_law_1047 (kI (fun r9 S8 H locs h hO hS => ?_))
  change W _ _ _ _ _ _ _ _ _ _ _ _ (_ + 0) (_ + 0) _ _
  refine lv_iload C0.1 C0.2.1 dL_law_1050 (lv_at hl 1 rfl) ?_
  refine lv_icmp_eq (tgt := 1057) C0.1 C0.2.1 dL_law_1052 (by decide) (fun c11 => ?_) (fun c11 => ?_)
  · replace h := h.1 c11
    refine lv_iload C0.1 C0.2.1 dL_law_1057 (lv_at hl 1 rfl) ?_
    refine lv_if_ne (tgt := 1074) C0.1 C0.2.1 dL_law_1059 (by decide) (fun c12 => ?_) (fun c12 => ?_)
    · replace h := h.1 c12
      exact bL_law_b1074 C0 Y hl9 hX9 hbl9 hbA9 hend9 hk28 _ _ _ _ _ _ _ _ _ _ _ h hO hS (lv_sub hl [2, 3, 4, 5, 6, 7] rfl) (by clear h; omega) (by clear h; omega)
    · replace h := h.2 c12
      refine lv_aload_n C0.1 C0.2.1 dL_law_1062 rfl (lv_at hl 5 rfl) ?_
      refine lv_iconst (v := 0) C0.1 C0.2.1 dL_law_1063 (by decide) ?_
      obtain ⟨i13, h⟩ := h
      obtain ⟨e14, h⟩ := h
      refine r_lald C0 hO i13 e14 dL_law_1064 ?_
      refine lv_iload C0.1 C0.2.1 dL_law_1065 (lv_at hl 0 rfl) ?_
      refine lv_i2l C0.1 C0.2.1 dL_law_1067 rfl ?_
      refine W.lcmp C0.1 C0.2.1 dL_law_1068 ?_
      refine lv_if_eq (tgt := 1074) C0.1 C0.2.1 dL_law_1069 (by decide) (fun c15 => ?_) (fun c15 => ?_)
      · replace h := h.1 c15
        exact bL_law_b1074 C0 Y hl9 hX9 hbl9 hbA9 hend9 hk28 _ _ _ _ _ _ _ _ _ _ _ h hO hS (lv_sub hl [2, 3, 4, 5, 6, 7] rfl) (by clear h; omega) (by clear h; omega)
      · replace h := h.2 c15
        refine lv_iconst (v := 0) C0.1 C0.2.1 dL_law_1072 (by decide) ?_
        exact h.elim
  · replace h := h.2 c11
    refine lv_iconst (v := 0) C0.1 C0.2.1 dL_law_1055 (by decide) ?_
    exact h.elim
def wL_law_b1077 (x0 : (Nat → Int32)) (L9 : Nat) (k28 : Hp → Nat → Nat → Nat → Nat → Int32 → Prop) (S : Hp) (v1 : Nat) (v2 : Nat) (v3 : Nat) (v4 : Nat) (v5 : Int32) : Prop := isA S v1 7 ∧ wX7_freedom S v1 (fun S1 r2 => isA S1 v2 8 ∧ wX8_freedom S1 v2 (fun S4 r5 => ((r2 = r5 → wL_law_b3146 x0 L9 k28 S4 v1 v2 v3 v4 v5) ∧ (¬ (r2 = r5) → False))))
set_option maxHeartbeats 4000000 in
set_option maxRecDepth 100000 in
theorem bL_law_b1077 {p : Program} {l : Launch} {e : Env} {s : State} {m : MethodId} {args : Array Value} {below : List Frame} {meth : Method} {c : Code} {G : Gw} {b9 : Nat} {Q : State → Prop} {x0 : (Nat → Int32)} {L9 : Nat} (C0 : Mx p s m c code 9 args yL_law.cls G) (Y : My meth (some .boolean)) (hl9 : l.stackTraces = false) (hX9 : va_X b9 L9 x0 s s.heap) (hbl9 : b9 < s.heap.size) (hbA9 : ¬ Ab G.b b9) (hend9 : ∀ (pc : Nat) (H : Heap) (locs : List Loc) (ls : Array Slot) (cells slots : Nat), decode code pc = .ok (.ireturn, 1) → va_S (Ab G.b) s.heap H locs → cells ≤ 603072 → slots ≤ 7198826 → W p l e room_1 s m args below meth c H locs cells slots Q (F0 m pc ls [.int 1])) {n9_28 : Nat} {k28 : Hp → Nat → Nat → Nat → Nat → Int32 → Prop} (hk28 : ∀ (S : Hp) (v1 : Nat) (v2 : Nat) (v3 : Nat) (v4 : Nat) (v5 : Int32) (H : Heap) (locs : List Loc) (ls : Array Slot) (cells slots : Nat), k28 S v1 v2 v3 v4 v5 → Ok G S H → va_S (Ab G.b) s.heap H locs → lv_has ls 9 [(0, .ref b9), (1, .ref v1), (2, .ref v2), (3, .ref v3), (4, .ref v4), (5, .int v5)] → cells + (n9_28 * 97 + 97) ≤ 603072 → slots + (n9_28 * 2225 + 2225) ≤ 7198826 → W p l e room_1 s m args below meth c H locs cells slots Q (F0 m 28 ls [])) : ∀ (S : Hp) (v1 : Nat) (v2 : Nat) (v3 : Nat) (v4 : Nat) (v5 : Int32) (H : Heap) (locs : List Loc) (ls : Array Slot) (cells slots : Nat), wL_law_b1077 x0 L9 k28 S v1 v2 v3 v4 v5 → Ok G S H → va_S (Ab G.b) s.heap H locs → lv_has ls 9 [(0, .ref b9), (1, .ref v1), (2, .ref v2), (3, .ref v3), (4, .ref v4), (5, .int v5)] → cells + (n9_28 * 97 + 97) ≤ 603072 → slots + (n9_28 * 2225 + 2225) ≤ 7198826 → W p l e room_1 s m args below meth c H locs cells slots Q (F0 m 1077 ls []) := by
  intro S v1 v2 v3 v4 v5 H locs ls cells slots h hO hS hl hcc hss
  unfold wL_law_b1077 at h
  refine lv_aload_n C0.1 C0.2.1 dL_law_1077 rfl (lv_at hl 1 rfl) ?_
  obtain ⟨i3, h⟩ := h
  refine c_V C0 hO hS (mX7_freedom h) i3 (by decide) rfl rfl tb_235 tb_236 tb_237 tb_74 tb_238 hd_X7_freedom rfl ⟨⟨by decide, by decide⟩, by show _ + 0 ≤ 603072; omega, by show _ + 0 ≤ 7198826; omega⟩ hl.1 rfl (Nat.le_of_ble_eq_true rfl) dL_law_1078 (kI (fun r2 S1 H locs h hO hS => ?_))
  change W _ _ _ _ _ _ _ _ _ _ _ _ (_ + 0) (_ + 0) _ _
  refine lv_aload_n C0.1 C0.2.1 dL_law_1081 rfl (lv_at hl 2 rfl) ?_
  obtain ⟨i6, h⟩ := h
  refine c_V C0 hO hS (mX8_freedom h) i6 (by decide) rfl rfl tb_1595 tb_1596 tb_1597 tb_81 tb_1598 hd_X8_freedom rfl ⟨⟨by decide, by decide⟩, by show _ + 0 ≤ 603072; omega, by show _ + 0 ≤ 7198826; omega⟩ hl.1 rfl (Nat.le_of_ble_eq_true rfl) dL_law_1082 (kI (fun r5 S4 H locs h hO hS => ?_))
  change W _ _ _ _ _ _ _ _ _ _ _ _ (_ + 0) (_ + 0) _ _
  refine lv_icmp_eq (tgt := 3146) C0.1 C0.2.1 dL_law_1085 (by decide) (fun c7 => ?_) (fun c7 => ?_)
  · replace h := h.1 c7
    exact bL_law_b3146 C0 Y hl9 hX9 hbl9 hbA9 hend9 hk28 _ _ _ _ _ _ _ _ _ _ _ h hO hS (lv_sub hl [0, 1, 2, 3, 4, 5] rfl) (by clear h; omega) (by clear h; omega)
  · replace h := h.2 c7
    refine lv_iconst (v := 0) C0.1 C0.2.1 dL_law_1088 (by decide) ?_
    exact h.elim
def wL_law_b1142 (x0 : (Nat → Int32)) (L9 : Nat) (k28 : Hp → Nat → Nat → Nat → Nat → Int32 → Prop) (S : Hp) (v1 : Nat) (v2 : Nat) (v3 : Nat) (v4 : Nat) (v5 : Int32) : Prop := wL_law_b3146 x0 L9 k28 S v1 v2 v3 v4 v5
set_option maxHeartbeats 4000000 in
set_option maxRecDepth 100000 in
theorem bL_law_b1142 {p : Program} {l : Launch} {e : Env} {s : State} {m : MethodId} {args : Array Value} {below : List Frame} {meth : Method} {c : Code} {G : Gw} {b9 : Nat} {Q : State → Prop} {x0 : (Nat → Int32)} {L9 : Nat} (C0 : Mx p s m c code 9 args yL_law.cls G) (Y : My meth (some .boolean)) (hl9 : l.stackTraces = false) (hX9 : va_X b9 L9 x0 s s.heap) (hbl9 : b9 < s.heap.size) (hbA9 : ¬ Ab G.b b9) (hend9 : ∀ (pc : Nat) (H : Heap) (locs : List Loc) (ls : Array Slot) (cells slots : Nat), decode code pc = .ok (.ireturn, 1) → va_S (Ab G.b) s.heap H locs → cells ≤ 603072 → slots ≤ 7198826 → W p l e room_1 s m args below meth c H locs cells slots Q (F0 m pc ls [.int 1])) {n9_28 : Nat} {k28 : Hp → Nat → Nat → Nat → Nat → Int32 → Prop} (hk28 : ∀ (S : Hp) (v1 : Nat) (v2 : Nat) (v3 : Nat) (v4 : Nat) (v5 : Int32) (H : Heap) (locs : List Loc) (ls : Array Slot) (cells slots : Nat), k28 S v1 v2 v3 v4 v5 → Ok G S H → va_S (Ab G.b) s.heap H locs → lv_has ls 9 [(0, .ref b9), (1, .ref v1), (2, .ref v2), (3, .ref v3), (4, .ref v4), (5, .int v5)] → cells + (n9_28 * 97 + 97) ≤ 603072 → slots + (n9_28 * 2225 + 2225) ≤ 7198826 → W p l e room_1 s m args below meth c H locs cells slots Q (F0 m 28 ls [])) : ∀ (S : Hp) (v1 : Nat) (v2 : Nat) (v3 : Nat) (v4 : Nat) (v5 : Int32) (H : Heap) (locs : List Loc) (ls : Array Slot) (cells slots : Nat), wL_law_b1142 x0 L9 k28 S v1 v2 v3 v4 v5 → Ok G S H → va_S (Ab G.b) s.heap H locs → lv_has ls 9 [(0, .ref b9), (1, .ref v1), (2, .ref v2), (3, .ref v3), (4, .ref v4), (5, .int v5)] → cells + (n9_28 * 97 + 97) ≤ 603072 → slots + (n9_28 * 2225 + 2225) ≤ 7198826 → W p l e room_1 s m args below meth c H locs cells slots Q (F0 m 1142 ls []) := by
  intro S v1 v2 v3 v4 v5 H locs ls cells slots h hO hS hl hcc hss
  unfold wL_law_b1142 at h
  refine lv_goto (tgt := 3146) C0.1 C0.2.1 dL_law_1142 (by decide) ?_
  exact bL_law_b3146 C0 Y hl9 hX9 hbl9 hbA9 hend9 hk28 _ _ _ _ _ _ _ _ _ _ _ h hO hS (lv_sub hl [0, 1, 2, 3, 4, 5] rfl) (by clear h; omega) (by clear h; omega)
def wL_law_b1090 (x0 : (Nat → Int32)) (L9 : Nat) (k28 : Hp → Nat → Nat → Nat → Nat → Int32 → Prop) (S : Hp) (v1 : Nat) (v2 : Nat) (v3 : Nat) (v4 : Nat) (v5 : Int32) : Prop := vp_in (v5 + 1) L9 ∧ wL_wornOver S v1 (x0 (v5 + 1).toNatClampNeg) v3 (fun S2 r3 => vp_in (v5 + 1) L9 ∧ isA S2 v2 8 ∧ wX8_wornOver S2 v2 (x0 (v5 + 1).toNatClampNeg) (fun S5 r6 => isA S5 v2 8 ∧ wX8_thrown S5 v2 (fun S8 r9 => ((r9 = r3 → ((¬ r3 = 0 → wL_law_b1142 x0 L9 k28 S8 v1 v2 v3 v4 v5) ∧ (r3 = 0 → isA S8 v3 22 ∧ vp_in 0 (S8.N v3) ∧ (((lg_cmp (S8.AJ v3 ((0 : Int32).toNatClampNeg)) r6) = 0 → wL_law_b1142 x0 L9 k28 S8 v1 v2 v3 v4 v5) ∧ (¬ ((lg_cmp (S8.AJ v3 ((0 : Int32).toNatClampNeg)) r6) = 0) → False))))) ∧ (¬ (r9 = r3) → False)))))
set_option maxHeartbeats 4000000 in
set_option maxRecDepth 100000 in
theorem bL_law_b1090 {p : Program} {l : Launch} {e : Env} {s : State} {m : MethodId} {args : Array Value} {below : List Frame} {meth : Method} {c : Code} {G : Gw} {b9 : Nat} {Q : State → Prop} {x0 : (Nat → Int32)} {L9 : Nat} (C0 : Mx p s m c code 9 args yL_law.cls G) (Y : My meth (some .boolean)) (hl9 : l.stackTraces = false) (hX9 : va_X b9 L9 x0 s s.heap) (hbl9 : b9 < s.heap.size) (hbA9 : ¬ Ab G.b b9) (hend9 : ∀ (pc : Nat) (H : Heap) (locs : List Loc) (ls : Array Slot) (cells slots : Nat), decode code pc = .ok (.ireturn, 1) → va_S (Ab G.b) s.heap H locs → cells ≤ 603072 → slots ≤ 7198826 → W p l e room_1 s m args below meth c H locs cells slots Q (F0 m pc ls [.int 1])) {n9_28 : Nat} {k28 : Hp → Nat → Nat → Nat → Nat → Int32 → Prop} (hk28 : ∀ (S : Hp) (v1 : Nat) (v2 : Nat) (v3 : Nat) (v4 : Nat) (v5 : Int32) (H : Heap) (locs : List Loc) (ls : Array Slot) (cells slots : Nat), k28 S v1 v2 v3 v4 v5 → Ok G S H → va_S (Ab G.b) s.heap H locs → lv_has ls 9 [(0, .ref b9), (1, .ref v1), (2, .ref v2), (3, .ref v3), (4, .ref v4), (5, .int v5)] → cells + (n9_28 * 97 + 97) ≤ 603072 → slots + (n9_28 * 2225 + 2225) ≤ 7198826 → W p l e room_1 s m args below meth c H locs cells slots Q (F0 m 28 ls [])) : ∀ (S : Hp) (v1 : Nat) (v2 : Nat) (v3 : Nat) (v4 : Nat) (v5 : Int32) (H : Heap) (locs : List Loc) (ls : Array Slot) (cells slots : Nat), wL_law_b1090 x0 L9 k28 S v1 v2 v3 v4 v5 → Ok G S H → va_S (Ab G.b) s.heap H locs → lv_has ls 9 [(0, .ref b9), (1, .ref v1), (2, .ref v2), (3, .ref v3), (4, .ref v4), (5, .int v5)] → cells + (n9_28 * 97 + 98) ≤ 603072 → slots + (n9_28 * 2225 + 2231) ≤ 7198826 → W p l e room_1 s m args below meth c H locs cells slots Q (F0 m 1090 ls []) := by
  intro S v1 v2 v3 v4 v5 H locs ls cells slots h hO hS hl hcc hss
  unfold wL_law_b1090 at h
  refine lv_aload_n C0.1 C0.2.1 dL_law_1090 rfl (lv_at hl 1 rfl) ?_
  refine lv_aload_n C0.1 C0.2.1 dL_law_1091 rfl (lv_at hl 0 rfl) ?_
  refine lv_iload C0.1 C0.2.1 dL_law_1092 (lv_at hl 5 rfl) ?_
  refine lv_iconst (v := 1) C0.1 C0.2.1 dL_law_1094 (by decide) ?_
  refine lv_iadd C0.1 C0.2.1 dL_law_1095 ?_
  obtain ⟨e1, h⟩ := h
  refine va_sld C0.1 C0.2.1 hX9 hbl9 hbA9 hS e1 dL_law_1096 ?_
  refine lv_aload_n C0.1 C0.2.1 dL_law_1097 rfl (lv_at hl 3 rfl) ?_
  refine c_SW C0 hO hS (mL_wornOver hl9 h) tb_921 tb_922 tb_73 tb_923 hd_L_wornOver rfl ⟨⟨by decide, by decide⟩, by show _ + 1 ≤ 603072; omega, by show _ + 6 ≤ 7198826; omega⟩ hl.1 rfl (Nat.le_of_ble_eq_true rfl) dL_law_1098 (kI (fun r3 S2 H locs h hO hS => ?_))
  change W _ _ _ _ _ _ _ _ _ _ _ _ (_ + 1) (_ + 6) _ _
  refine lv_istore C0.1 C0.2.1 dL_law_1101 hl (by decide) rfl (fun ls hl => ?_)
  refine lv_aload_n C0.1 C0.2.1 dL_law_1103 rfl (lv_at hl 3 rfl) ?_
  refine lv_aload_n C0.1 C0.2.1 dL_law_1104 rfl (lv_at hl 1 rfl) ?_
  refine lv_iload C0.1 C0.2.1 dL_law_1105 (lv_at hl 6 rfl) ?_
  refine lv_iconst (v := 1) C0.1 C0.2.1 dL_law_1107 (by decide) ?_
  refine lv_iadd C0.1 C0.2.1 dL_law_1108 ?_
  obtain ⟨e4, h⟩ := h
  refine va_sld C0.1 C0.2.1 hX9 hbl9 hbA9 hS e4 dL_law_1109 ?_
  obtain ⟨i7, h⟩ := h
  refine c_V C0 hO hS (mX8_wornOver h) i7 (by decide) rfl rfl tb_1599 tb_1600 tb_1601 tb_81 tb_1602 hd_X8_wornOver rfl ⟨⟨by decide, by decide⟩, by show _ + 0 ≤ 603072; omega, by show _ + 0 ≤ 7198826; omega⟩ hl.1 rfl (Nat.le_of_ble_eq_true rfl) dL_law_1110 (kJ (fun r6 S5 H locs h hO hS => ?_))
  change W _ _ _ _ _ _ _ _ _ _ _ _ (_ + 0) (_ + 0) _ _
  refine lv_lstore C0.1 C0.2.1 dL_law_1113 hl (by decide) rfl (fun ls hl => ?_)
  refine lv_aload_n C0.1 C0.2.1 dL_law_1115 rfl (lv_at hl 4 rfl) ?_
  obtain ⟨i10, h⟩ := h
  refine c_V C0 hO hS (mX8_thrown h) i10 (by decide) rfl rfl tb_1443 tb_1444 tb_1445 tb_81 tb_1446 hd_X8_thrown rfl ⟨⟨by decide, by decide⟩, by show _ + 0 ≤ 603072; omega, by show _ + 0 ≤ 7198826; omega⟩ hl.1 rfl (Nat.le_of_ble_eq_true rfl) dL_law_1116 (kI (fun r9 S8 H locs h hO hS => ?_))
  change W _ _ _ _ _ _ _ _ _ _ _ _ (_ + 0) (_ + 0) _ _
  refine lv_iload C0.1 C0.2.1 dL_law_1119 (lv_at hl 1 rfl) ?_
  refine lv_icmp_eq (tgt := 1126) C0.1 C0.2.1 dL_law_1121 (by decide) (fun c11 => ?_) (fun c11 => ?_)
  · replace h := h.1 c11
    refine lv_iload C0.1 C0.2.1 dL_law_1126 (lv_at hl 1 rfl) ?_
    refine lv_if_ne (tgt := 1142) C0.1 C0.2.1 dL_law_1128 (by decide) (fun c12 => ?_) (fun c12 => ?_)
    · replace h := h.1 c12
      exact bL_law_b1142 C0 Y hl9 hX9 hbl9 hbA9 hend9 hk28 _ _ _ _ _ _ _ _ _ _ _ h hO hS (lv_sub hl [2, 3, 4, 5, 6, 7] rfl) (by clear h; omega) (by clear h; omega)
    · replace h := h.2 c12
      refine lv_aload_n C0.1 C0.2.1 dL_law_1131 rfl (lv_at hl 5 rfl) ?_
      refine lv_iconst (v := 0) C0.1 C0.2.1 dL_law_1132 (by decide) ?_
      obtain ⟨i13, h⟩ := h
      obtain ⟨e14, h⟩ := h
      refine r_lald C0 hO i13 e14 dL_law_1133 ?_
      refine lv_lload C0.1 C0.2.1 dL_law_1134 (lv_at hl 0 rfl) ?_
      refine W.lcmp C0.1 C0.2.1 dL_law_1136 ?_
      refine lv_if_eq (tgt := 1142) C0.1 C0.2.1 dL_law_1137 (by decide) (fun c15 => ?_) (fun c15 => ?_)
      · replace h := h.1 c15
        exact bL_law_b1142 C0 Y hl9 hX9 hbl9 hbA9 hend9 hk28 _ _ _ _ _ _ _ _ _ _ _ h hO hS (lv_sub hl [2, 3, 4, 5, 6, 7] rfl) (by clear h; omega) (by clear h; omega)
      · replace h := h.2 c15
        refine lv_iconst (v := 0) C0.1 C0.2.1 dL_law_1140 (by decide) ?_
        exact h.elim
  · replace h := h.2 c11
    refine lv_iconst (v := 0) C0.1 C0.2.1 dL_law_1124 (by decide) ?_
    exact h.elim
def wL_law_b1197 (x0 : (Nat → Int32)) (L9 : Nat) (k28 : Hp → Nat → Nat → Nat → Nat → Int32 → Prop) (S : Hp) (v1 : Nat) (v2 : Nat) (v3 : Nat) (v4 : Nat) (v5 : Int32) : Prop := wL_law_b3146 x0 L9 k28 S v1 v2 v3 v4 v5
set_option maxHeartbeats 4000000 in
set_option maxRecDepth 100000 in
theorem bL_law_b1197 {p : Program} {l : Launch} {e : Env} {s : State} {m : MethodId} {args : Array Value} {below : List Frame} {meth : Method} {c : Code} {G : Gw} {b9 : Nat} {Q : State → Prop} {x0 : (Nat → Int32)} {L9 : Nat} (C0 : Mx p s m c code 9 args yL_law.cls G) (Y : My meth (some .boolean)) (hl9 : l.stackTraces = false) (hX9 : va_X b9 L9 x0 s s.heap) (hbl9 : b9 < s.heap.size) (hbA9 : ¬ Ab G.b b9) (hend9 : ∀ (pc : Nat) (H : Heap) (locs : List Loc) (ls : Array Slot) (cells slots : Nat), decode code pc = .ok (.ireturn, 1) → va_S (Ab G.b) s.heap H locs → cells ≤ 603072 → slots ≤ 7198826 → W p l e room_1 s m args below meth c H locs cells slots Q (F0 m pc ls [.int 1])) {n9_28 : Nat} {k28 : Hp → Nat → Nat → Nat → Nat → Int32 → Prop} (hk28 : ∀ (S : Hp) (v1 : Nat) (v2 : Nat) (v3 : Nat) (v4 : Nat) (v5 : Int32) (H : Heap) (locs : List Loc) (ls : Array Slot) (cells slots : Nat), k28 S v1 v2 v3 v4 v5 → Ok G S H → va_S (Ab G.b) s.heap H locs → lv_has ls 9 [(0, .ref b9), (1, .ref v1), (2, .ref v2), (3, .ref v3), (4, .ref v4), (5, .int v5)] → cells + (n9_28 * 97 + 97) ≤ 603072 → slots + (n9_28 * 2225 + 2225) ≤ 7198826 → W p l e room_1 s m args below meth c H locs cells slots Q (F0 m 28 ls [])) : ∀ (S : Hp) (v1 : Nat) (v2 : Nat) (v3 : Nat) (v4 : Nat) (v5 : Int32) (H : Heap) (locs : List Loc) (ls : Array Slot) (cells slots : Nat), wL_law_b1197 x0 L9 k28 S v1 v2 v3 v4 v5 → Ok G S H → va_S (Ab G.b) s.heap H locs → lv_has ls 9 [(0, .ref b9), (1, .ref v1), (2, .ref v2), (3, .ref v3), (4, .ref v4), (5, .int v5)] → cells + (n9_28 * 97 + 97) ≤ 603072 → slots + (n9_28 * 2225 + 2225) ≤ 7198826 → W p l e room_1 s m args below meth c H locs cells slots Q (F0 m 1197 ls []) := by
  intro S v1 v2 v3 v4 v5 H locs ls cells slots h hO hS hl hcc hss
  unfold wL_law_b1197 at h
  refine lv_goto (tgt := 3146) C0.1 C0.2.1 dL_law_1197 (by decide) ?_
  exact bL_law_b3146 C0 Y hl9 hX9 hbl9 hbA9 hend9 hk28 _ _ _ _ _ _ _ _ _ _ _ h hO hS (lv_sub hl [0, 1, 2, 3, 4, 5] rfl) (by clear h; omega) (by clear h; omega)
def wL_law_b1145 (x0 : (Nat → Int32)) (L9 : Nat) (k28 : Hp → Nat → Nat → Nat → Nat → Int32 → Prop) (S : Hp) (v1 : Nat) (v2 : Nat) (v3 : Nat) (v4 : Nat) (v5 : Int32) : Prop := vp_in (v5 + 1) L9 ∧ wL_wornUnder S v1 (x0 (v5 + 1).toNatClampNeg) v3 (fun S2 r3 => vp_in (v5 + 1) L9 ∧ isA S2 v2 8 ∧ wX8_wornUnder S2 v2 (x0 (v5 + 1).toNatClampNeg) (fun S5 r6 => isA S5 v2 8 ∧ wX8_thrown S5 v2 (fun S8 r9 => ((r9 = r3 → ((¬ r3 = 0 → wL_law_b1197 x0 L9 k28 S8 v1 v2 v3 v4 v5) ∧ (r3 = 0 → isA S8 v3 22 ∧ vp_in 0 (S8.N v3) ∧ (((lg_cmp (S8.AJ v3 ((0 : Int32).toNatClampNeg)) r6) = 0 → wL_law_b1197 x0 L9 k28 S8 v1 v2 v3 v4 v5) ∧ (¬ ((lg_cmp (S8.AJ v3 ((0 : Int32).toNatClampNeg)) r6) = 0) → False))))) ∧ (¬ (r9 = r3) → False)))))
set_option maxHeartbeats 4000000 in
set_option maxRecDepth 100000 in
theorem bL_law_b1145 {p : Program} {l : Launch} {e : Env} {s : State} {m : MethodId} {args : Array Value} {below : List Frame} {meth : Method} {c : Code} {G : Gw} {b9 : Nat} {Q : State → Prop} {x0 : (Nat → Int32)} {L9 : Nat} (C0 : Mx p s m c code 9 args yL_law.cls G) (Y : My meth (some .boolean)) (hl9 : l.stackTraces = false) (hX9 : va_X b9 L9 x0 s s.heap) (hbl9 : b9 < s.heap.size) (hbA9 : ¬ Ab G.b b9) (hend9 : ∀ (pc : Nat) (H : Heap) (locs : List Loc) (ls : Array Slot) (cells slots : Nat), decode code pc = .ok (.ireturn, 1) → va_S (Ab G.b) s.heap H locs → cells ≤ 603072 → slots ≤ 7198826 → W p l e room_1 s m args below meth c H locs cells slots Q (F0 m pc ls [.int 1])) {n9_28 : Nat} {k28 : Hp → Nat → Nat → Nat → Nat → Int32 → Prop} (hk28 : ∀ (S : Hp) (v1 : Nat) (v2 : Nat) (v3 : Nat) (v4 : Nat) (v5 : Int32) (H : Heap) (locs : List Loc) (ls : Array Slot) (cells slots : Nat), k28 S v1 v2 v3 v4 v5 → Ok G S H → va_S (Ab G.b) s.heap H locs → lv_has ls 9 [(0, .ref b9), (1, .ref v1), (2, .ref v2), (3, .ref v3), (4, .ref v4), (5, .int v5)] → cells + (n9_28 * 97 + 97) ≤ 603072 → slots + (n9_28 * 2225 + 2225) ≤ 7198826 → W p l e room_1 s m args below meth c H locs cells slots Q (F0 m 28 ls [])) : ∀ (S : Hp) (v1 : Nat) (v2 : Nat) (v3 : Nat) (v4 : Nat) (v5 : Int32) (H : Heap) (locs : List Loc) (ls : Array Slot) (cells slots : Nat), wL_law_b1145 x0 L9 k28 S v1 v2 v3 v4 v5 → Ok G S H → va_S (Ab G.b) s.heap H locs → lv_has ls 9 [(0, .ref b9), (1, .ref v1), (2, .ref v2), (3, .ref v3), (4, .ref v4), (5, .int v5)] → cells + (n9_28 * 97 + 98) ≤ 603072 → slots + (n9_28 * 2225 + 2231) ≤ 7198826 → W p l e room_1 s m args below meth c H locs cells slots Q (F0 m 1145 ls []) := by
  intro S v1 v2 v3 v4 v5 H locs ls cells slots h hO hS hl hcc hss
  unfold wL_law_b1145 at h
  refine lv_aload_n C0.1 C0.2.1 dL_law_1145 rfl (lv_at hl 1 rfl) ?_
  refine lv_aload_n C0.1 C0.2.1 dL_law_1146 rfl (lv_at hl 0 rfl) ?_
  refine lv_iload C0.1 C0.2.1 dL_law_1147 (lv_at hl 5 rfl) ?_
  refine lv_iconst (v := 1) C0.1 C0.2.1 dL_law_1149 (by decide) ?_
  refine lv_iadd C0.1 C0.2.1 dL_law_1150 ?_
  obtain ⟨e1, h⟩ := h
  refine va_sld C0.1 C0.2.1 hX9 hbl9 hbA9 hS e1 dL_law_1151 ?_
  refine lv_aload_n C0.1 C0.2.1 dL_law_1152 rfl (lv_at hl 3 rfl) ?_
  refine c_SW C0 hO hS (mL_wornUnder hl9 h) tb_928 tb_929 tb_73 tb_930 hd_L_wornUnder rfl ⟨⟨by decide, by decide⟩, by show _ + 1 ≤ 603072; omega, by show _ + 6 ≤ 7198826; omega⟩ hl.1 rfl (Nat.le_of_ble_eq_true rfl) dL_law_1153 (kI (fun r3 S2 H locs h hO hS => ?_))
  change W _ _ _ _ _ _ _ _ _ _ _ _ (_ + 1) (_ + 6) _ _
  refine lv_istore C0.1 C0.2.1 dL_law_1156 hl (by decide) rfl (fun ls hl => ?_)
  refine lv_aload_n C0.1 C0.2.1 dL_law_1158 rfl (lv_at hl 3 rfl) ?_
  refine lv_aload_n C0.1 C0.2.1 dL_law_1159 rfl (lv_at hl 1 rfl) ?_
  refine lv_iload C0.1 C0.2.1 dL_law_1160 (lv_at hl 6 rfl) ?_
  refine lv_iconst (v := 1) C0.1 C0.2.1 dL_law_1162 (by decide) ?_
  refine lv_iadd C0.1 C0.2.1 dL_law_1163 ?_
  obtain ⟨e4, h⟩ := h
  refine va_sld C0.1 C0.2.1 hX9 hbl9 hbA9 hS e4 dL_law_1164 ?_
  obtain ⟨i7, h⟩ := h
  refine c_V C0 hO hS (mX8_wornUnder h) i7 (by decide) rfl rfl tb_1603 tb_1604 tb_1605 tb_81 tb_1606 hd_X8_wornUnder rfl ⟨⟨by decide, by decide⟩, by show _ + 0 ≤ 603072; omega, by show _ + 0 ≤ 7198826; omega⟩ hl.1 rfl (Nat.le_of_ble_eq_true rfl) dL_law_1165 (kJ (fun r6 S5 H locs h hO hS => ?_))
  change W _ _ _ _ _ _ _ _ _ _ _ _ (_ + 0) (_ + 0) _ _
  refine lv_lstore C0.1 C0.2.1 dL_law_1168 hl (by decide) rfl (fun ls hl => ?_)
  refine lv_aload_n C0.1 C0.2.1 dL_law_1170 rfl (lv_at hl 4 rfl) ?_
  obtain ⟨i10, h⟩ := h
  refine c_V C0 hO hS (mX8_thrown h) i10 (by decide) rfl rfl tb_1443 tb_1444 tb_1445 tb_81 tb_1446 hd_X8_thrown rfl ⟨⟨by decide, by decide⟩, by show _ + 0 ≤ 603072; omega, by show _ + 0 ≤ 7198826; omega⟩ hl.1 rfl (Nat.le_of_ble_eq_true rfl) dL_law_1171 (kI (fun r9 S8 H locs h hO hS => ?_))
  change W _ _ _ _ _ _ _ _ _ _ _ _ (_ + 0) (_ + 0) _ _
  refine lv_iload C0.1 C0.2.1 dL_law_1174 (lv_at hl 1 rfl) ?_
  refine lv_icmp_eq (tgt := 1181) C0.1 C0.2.1 dL_law_1176 (by decide) (fun c11 => ?_) (fun c11 => ?_)
  · replace h := h.1 c11
    refine lv_iload C0.1 C0.2.1 dL_law_1181 (lv_at hl 1 rfl) ?_
    refine lv_if_ne (tgt := 1197) C0.1 C0.2.1 dL_law_1183 (by decide) (fun c12 => ?_) (fun c12 => ?_)
    · replace h := h.1 c12
      exact bL_law_b1197 C0 Y hl9 hX9 hbl9 hbA9 hend9 hk28 _ _ _ _ _ _ _ _ _ _ _ h hO hS (lv_sub hl [2, 3, 4, 5, 6, 7] rfl) (by clear h; omega) (by clear h; omega)
    · replace h := h.2 c12
      refine lv_aload_n C0.1 C0.2.1 dL_law_1186 rfl (lv_at hl 5 rfl) ?_
      refine lv_iconst (v := 0) C0.1 C0.2.1 dL_law_1187 (by decide) ?_
      obtain ⟨i13, h⟩ := h
      obtain ⟨e14, h⟩ := h
      refine r_lald C0 hO i13 e14 dL_law_1188 ?_
      refine lv_lload C0.1 C0.2.1 dL_law_1189 (lv_at hl 0 rfl) ?_
      refine W.lcmp C0.1 C0.2.1 dL_law_1191 ?_
      refine lv_if_eq (tgt := 1197) C0.1 C0.2.1 dL_law_1192 (by decide) (fun c15 => ?_) (fun c15 => ?_)
      · replace h := h.1 c15
        exact bL_law_b1197 C0 Y hl9 hX9 hbl9 hbA9 hend9 hk28 _ _ _ _ _ _ _ _ _ _ _ h hO hS (lv_sub hl [2, 3, 4, 5, 6, 7] rfl) (by clear h; omega) (by clear h; omega)
      · replace h := h.2 c15
        refine lv_iconst (v := 0) C0.1 C0.2.1 dL_law_1195 (by decide) ?_
        exact h.elim
  · replace h := h.2 c11
    refine lv_iconst (v := 0) C0.1 C0.2.1 dL_law_1179 (by decide) ?_
    exact h.elim
def wL_law_b1260 (x0 : (Nat → Int32)) (L9 : Nat) (k28 : Hp → Nat → Nat → Nat → Nat → Int32 → Prop) (S : Hp) (v1 : Nat) (v2 : Nat) (v3 : Nat) (v4 : Nat) (v5 : Int32) : Prop := wL_law_b3146 x0 L9 k28 S v1 v2 v3 v4 v5
set_option maxHeartbeats 4000000 in
set_option maxRecDepth 100000 in
theorem bL_law_b1260 {p : Program} {l : Launch} {e : Env} {s : State} {m : MethodId} {args : Array Value} {below : List Frame} {meth : Method} {c : Code} {G : Gw} {b9 : Nat} {Q : State → Prop} {x0 : (Nat → Int32)} {L9 : Nat} (C0 : Mx p s m c code 9 args yL_law.cls G) (Y : My meth (some .boolean)) (hl9 : l.stackTraces = false) (hX9 : va_X b9 L9 x0 s s.heap) (hbl9 : b9 < s.heap.size) (hbA9 : ¬ Ab G.b b9) (hend9 : ∀ (pc : Nat) (H : Heap) (locs : List Loc) (ls : Array Slot) (cells slots : Nat), decode code pc = .ok (.ireturn, 1) → va_S (Ab G.b) s.heap H locs → cells ≤ 603072 → slots ≤ 7198826 → W p l e room_1 s m args below meth c H locs cells slots Q (F0 m pc ls [.int 1])) {n9_28 : Nat} {k28 : Hp → Nat → Nat → Nat → Nat → Int32 → Prop} (hk28 : ∀ (S : Hp) (v1 : Nat) (v2 : Nat) (v3 : Nat) (v4 : Nat) (v5 : Int32) (H : Heap) (locs : List Loc) (ls : Array Slot) (cells slots : Nat), k28 S v1 v2 v3 v4 v5 → Ok G S H → va_S (Ab G.b) s.heap H locs → lv_has ls 9 [(0, .ref b9), (1, .ref v1), (2, .ref v2), (3, .ref v3), (4, .ref v4), (5, .int v5)] → cells + (n9_28 * 97 + 97) ≤ 603072 → slots + (n9_28 * 2225 + 2225) ≤ 7198826 → W p l e room_1 s m args below meth c H locs cells slots Q (F0 m 28 ls [])) : ∀ (S : Hp) (v1 : Nat) (v2 : Nat) (v3 : Nat) (v4 : Nat) (v5 : Int32) (H : Heap) (locs : List Loc) (ls : Array Slot) (cells slots : Nat), wL_law_b1260 x0 L9 k28 S v1 v2 v3 v4 v5 → Ok G S H → va_S (Ab G.b) s.heap H locs → lv_has ls 9 [(0, .ref b9), (1, .ref v1), (2, .ref v2), (3, .ref v3), (4, .ref v4), (5, .int v5)] → cells + (n9_28 * 97 + 97) ≤ 603072 → slots + (n9_28 * 2225 + 2225) ≤ 7198826 → W p l e room_1 s m args below meth c H locs cells slots Q (F0 m 1260 ls []) := by
  intro S v1 v2 v3 v4 v5 H locs ls cells slots h hO hS hl hcc hss
  unfold wL_law_b1260 at h
  refine lv_goto (tgt := 3146) C0.1 C0.2.1 dL_law_1260 (by decide) ?_
  exact bL_law_b3146 C0 Y hl9 hX9 hbl9 hbA9 hend9 hk28 _ _ _ _ _ _ _ _ _ _ _ h hO hS (lv_sub hl [0, 1, 2, 3, 4, 5] rfl) (by clear h; omega) (by clear h; omega)
def wL_law_b1254 (x0 : (Nat → Int32)) (L9 : Nat) (k28 : Hp → Nat → Nat → Nat → Nat → Int32 → Prop) (S : Hp) (v1 : Nat) (v2 : Nat) (v3 : Nat) (v4 : Nat) (v5 : Int32) (z0 : Int64) (z1 : Int64) : Prop := (((lg_cmp z0 z1) = 0 → wL_law_b1260 x0 L9 k28 S v1 v2 v3 v4 v5) ∧ (¬ ((lg_cmp z0 z1) = 0) → False))
set_option maxHeartbeats 4000000 in
set_option maxRecDepth 100000 in
theorem bL_law_b1254 {p : Program} {l : Launch} {e : Env} {s : State} {m : MethodId} {args : Array Value} {below : List Frame} {meth : Method} {c : Code} {G : Gw} {b9 : Nat} {Q : State → Prop} {x0 : (Nat → Int32)} {L9 : Nat} (C0 : Mx p s m c code 9 args yL_law.cls G) (Y : My meth (some .boolean)) (hl9 : l.stackTraces = false) (hX9 : va_X b9 L9 x0 s s.heap) (hbl9 : b9 < s.heap.size) (hbA9 : ¬ Ab G.b b9) (hend9 : ∀ (pc : Nat) (H : Heap) (locs : List Loc) (ls : Array Slot) (cells slots : Nat), decode code pc = .ok (.ireturn, 1) → va_S (Ab G.b) s.heap H locs → cells ≤ 603072 → slots ≤ 7198826 → W p l e room_1 s m args below meth c H locs cells slots Q (F0 m pc ls [.int 1])) {n9_28 : Nat} {k28 : Hp → Nat → Nat → Nat → Nat → Int32 → Prop} (hk28 : ∀ (S : Hp) (v1 : Nat) (v2 : Nat) (v3 : Nat) (v4 : Nat) (v5 : Int32) (H : Heap) (locs : List Loc) (ls : Array Slot) (cells slots : Nat), k28 S v1 v2 v3 v4 v5 → Ok G S H → va_S (Ab G.b) s.heap H locs → lv_has ls 9 [(0, .ref b9), (1, .ref v1), (2, .ref v2), (3, .ref v3), (4, .ref v4), (5, .int v5)] → cells + (n9_28 * 97 + 97) ≤ 603072 → slots + (n9_28 * 2225 + 2225) ≤ 7198826 → W p l e room_1 s m args below meth c H locs cells slots Q (F0 m 28 ls [])) : ∀ (S : Hp) (v1 : Nat) (v2 : Nat) (v3 : Nat) (v4 : Nat) (v5 : Int32) (z0 : Int64) (z1 : Int64) (H : Heap) (locs : List Loc) (ls : Array Slot) (cells slots : Nat), wL_law_b1254 x0 L9 k28 S v1 v2 v3 v4 v5 z0 z1 → Ok G S H → va_S (Ab G.b) s.heap H locs → lv_has ls 9 [(0, .ref b9), (1, .ref v1), (2, .ref v2), (3, .ref v3), (4, .ref v4), (5, .int v5)] → cells + (n9_28 * 97 + 97) ≤ 603072 → slots + (n9_28 * 2225 + 2225) ≤ 7198826 → W p l e room_1 s m args below meth c H locs cells slots Q (F0 m 1254 ls [.long z1, .long z0]) := by
  intro S v1 v2 v3 v4 v5 z0 z1 H locs ls cells slots h hO hS hl hcc hss
  unfold wL_law_b1254 at h
  refine W.lcmp C0.1 C0.2.1 dL_law_1254 ?_
  refine lv_if_eq (tgt := 1260) C0.1 C0.2.1 dL_law_1255 (by decide) (fun c1 => ?_) (fun c1 => ?_)
  · replace h := h.1 c1
    exact bL_law_b1260 C0 Y hl9 hX9 hbl9 hbA9 hend9 hk28 _ _ _ _ _ _ _ _ _ _ _ h hO hS (lv_sub hl [0, 1, 2, 3, 4, 5] rfl) (by clear h; omega) (by clear h; omega)
  · replace h := h.2 c1
    refine lv_iconst (v := 0) C0.1 C0.2.1 dL_law_1258 (by decide) ?_
    exact h.elim
def wL_law_b1200 (x0 : (Nat → Int32)) (L9 : Nat) (k28 : Hp → Nat → Nat → Nat → Nat → Int32 → Prop) (S : Hp) (v1 : Nat) (v2 : Nat) (v3 : Nat) (v4 : Nat) (v5 : Int32) : Prop := vp_in (v5 + 1) L9 ∧ wL_isBroken S v1 (x0 (v5 + 1).toNatClampNeg) v3 (fun S2 r3 => vp_in (v5 + 1) L9 ∧ isA S2 v2 8 ∧ wX8_isBroken S2 v2 (x0 (v5 + 1).toNatClampNeg) (fun S5 r6 => isA S5 v2 8 ∧ wX8_thrown S5 v2 (fun S8 r9 => ((r9 = r3 → ((¬ r3 = 0 → wL_law_b1260 x0 L9 k28 S8 v1 v2 v3 v4 v5) ∧ (r3 = 0 → isA S8 v3 22 ∧ vp_in 0 (S8.N v3) ∧ ((r6 = 0 → wL_law_b1254 x0 L9 k28 S8 v1 v2 v3 v4 v5 (S8.AJ v3 ((0 : Int32).toNatClampNeg)) 0) ∧ (¬ (r6 = 0) → wL_law_b1254 x0 L9 k28 S8 v1 v2 v3 v4 v5 (S8.AJ v3 ((0 : Int32).toNatClampNeg)) 1))))) ∧ (¬ (r9 = r3) → False)))))
set_option maxHeartbeats 4000000 in
set_option maxRecDepth 100000 in
theorem bL_law_b1200 {p : Program} {l : Launch} {e : Env} {s : State} {m : MethodId} {args : Array Value} {below : List Frame} {meth : Method} {c : Code} {G : Gw} {b9 : Nat} {Q : State → Prop} {x0 : (Nat → Int32)} {L9 : Nat} (C0 : Mx p s m c code 9 args yL_law.cls G) (Y : My meth (some .boolean)) (hl9 : l.stackTraces = false) (hX9 : va_X b9 L9 x0 s s.heap) (hbl9 : b9 < s.heap.size) (hbA9 : ¬ Ab G.b b9) (hend9 : ∀ (pc : Nat) (H : Heap) (locs : List Loc) (ls : Array Slot) (cells slots : Nat), decode code pc = .ok (.ireturn, 1) → va_S (Ab G.b) s.heap H locs → cells ≤ 603072 → slots ≤ 7198826 → W p l e room_1 s m args below meth c H locs cells slots Q (F0 m pc ls [.int 1])) {n9_28 : Nat} {k28 : Hp → Nat → Nat → Nat → Nat → Int32 → Prop} (hk28 : ∀ (S : Hp) (v1 : Nat) (v2 : Nat) (v3 : Nat) (v4 : Nat) (v5 : Int32) (H : Heap) (locs : List Loc) (ls : Array Slot) (cells slots : Nat), k28 S v1 v2 v3 v4 v5 → Ok G S H → va_S (Ab G.b) s.heap H locs → lv_has ls 9 [(0, .ref b9), (1, .ref v1), (2, .ref v2), (3, .ref v3), (4, .ref v4), (5, .int v5)] → cells + (n9_28 * 97 + 97) ≤ 603072 → slots + (n9_28 * 2225 + 2225) ≤ 7198826 → W p l e room_1 s m args below meth c H locs cells slots Q (F0 m 28 ls [])) : ∀ (S : Hp) (v1 : Nat) (v2 : Nat) (v3 : Nat) (v4 : Nat) (v5 : Int32) (H : Heap) (locs : List Loc) (ls : Array Slot) (cells slots : Nat), wL_law_b1200 x0 L9 k28 S v1 v2 v3 v4 v5 → Ok G S H → va_S (Ab G.b) s.heap H locs → lv_has ls 9 [(0, .ref b9), (1, .ref v1), (2, .ref v2), (3, .ref v3), (4, .ref v4), (5, .int v5)] → cells + (n9_28 * 97 + 98) ≤ 603072 → slots + (n9_28 * 2225 + 2231) ≤ 7198826 → W p l e room_1 s m args below meth c H locs cells slots Q (F0 m 1200 ls []) := by
  intro S v1 v2 v3 v4 v5 H locs ls cells slots h hO hS hl hcc hss
  unfold wL_law_b1200 at h
  refine lv_aload_n C0.1 C0.2.1 dL_law_1200 rfl (lv_at hl 1 rfl) ?_
  refine lv_aload_n C0.1 C0.2.1 dL_law_1201 rfl (lv_at hl 0 rfl) ?_
  refine lv_iload C0.1 C0.2.1 dL_law_1202 (lv_at hl 5 rfl) ?_
  refine lv_iconst (v := 1) C0.1 C0.2.1 dL_law_1204 (by decide) ?_
  refine lv_iadd C0.1 C0.2.1 dL_law_1205 ?_
  obtain ⟨e1, h⟩ := h
  refine va_sld C0.1 C0.2.1 hX9 hbl9 hbA9 hS e1 dL_law_1206 ?_
  refine lv_aload_n C0.1 C0.2.1 dL_law_1207 rfl (lv_at hl 3 rfl) ?_
  refine c_SW C0 hO hS (mL_isBroken hl9 h) tb_935 tb_936 tb_73 tb_937 hd_L_isBroken rfl ⟨⟨by decide, by decide⟩, by show _ + 1 ≤ 603072; omega, by show _ + 6 ≤ 7198826; omega⟩ hl.1 rfl (Nat.le_of_ble_eq_true rfl) dL_law_1208 (kI (fun r3 S2 H locs h hO hS => ?_))
  change W _ _ _ _ _ _ _ _ _ _ _ _ (_ + 1) (_ + 6) _ _
  refine lv_istore C0.1 C0.2.1 dL_law_1211 hl (by decide) rfl (fun ls hl => ?_)
  refine lv_aload_n C0.1 C0.2.1 dL_law_1213 rfl (lv_at hl 3 rfl) ?_
  refine lv_aload_n C0.1 C0.2.1 dL_law_1214 rfl (lv_at hl 1 rfl) ?_
  refine lv_iload C0.1 C0.2.1 dL_law_1215 (lv_at hl 6 rfl) ?_
  refine lv_iconst (v := 1) C0.1 C0.2.1 dL_law_1217 (by decide) ?_
  refine lv_iadd C0.1 C0.2.1 dL_law_1218 ?_
  obtain ⟨e4, h⟩ := h
  refine va_sld C0.1 C0.2.1 hX9 hbl9 hbA9 hS e4 dL_law_1219 ?_
  obtain ⟨i7, h⟩ := h
  refine c_V C0 hO hS (mX8_isBroken h) i7 (by decide) rfl rfl tb_1607 tb_1608 tb_1609 tb_81 tb_1610 hd_X8_isBroken rfl ⟨⟨by decide, by decide⟩, by show _ + 0 ≤ 603072; omega, by show _ + 0 ≤ 7198826; omega⟩ hl.1 rfl (Nat.le_of_ble_eq_true rfl) dL_law_1220 (kI (fun r6 S5 H locs h hO hS => ?_))
  change W _ _ _ _ _ _ _ _ _ _ _ _ (_ + 0) (_ + 0) _ _
  refine lv_istore C0.1 C0.2.1 dL_law_1223 hl (by decide) rfl (fun ls hl => ?_)
  refine lv_aload_n C0.1 C0.2.1 dL_law_1225 rfl (lv_at hl 4 rfl) ?_
  obtain ⟨i10, h⟩ := h
  refine c_V C0 hO hS (mX8_thrown h) i10 (by decide) rfl rfl tb_1443 tb_1444 tb_1445 tb_81 tb_1446 hd_X8_thrown rfl ⟨⟨by decide, by decide⟩, by show _ + 0 ≤ 603072; omega, by show _ + 0 ≤ 7198826; omega⟩ hl.1 rfl (Nat.le_of_ble_eq_true rfl) dL_law_1226 (kI (fun r9 S8 H locs h hO hS => ?_))
  change W _ _ _ _ _ _ _ _ _ _ _ _ (_ + 0) (_ + 0) _ _
  refine lv_iload C0.1 C0.2.1 dL_law_1229 (lv_at hl 1 rfl) ?_
  refine lv_icmp_eq (tgt := 1236) C0.1 C0.2.1 dL_law_1231 (by decide) (fun c11 => ?_) (fun c11 => ?_)
  · replace h := h.1 c11
    refine lv_iload C0.1 C0.2.1 dL_law_1236 (lv_at hl 1 rfl) ?_
    refine lv_if_ne (tgt := 1260) C0.1 C0.2.1 dL_law_1238 (by decide) (fun c12 => ?_) (fun c12 => ?_)
    · replace h := h.1 c12
      exact bL_law_b1260 C0 Y hl9 hX9 hbl9 hbA9 hend9 hk28 _ _ _ _ _ _ _ _ _ _ _ h hO hS (lv_sub hl [2, 3, 4, 5, 6, 7] rfl) (by clear h; omega) (by clear h; omega)
    · replace h := h.2 c12
      refine lv_aload_n C0.1 C0.2.1 dL_law_1241 rfl (lv_at hl 5 rfl) ?_
      refine lv_iconst (v := 0) C0.1 C0.2.1 dL_law_1242 (by decide) ?_
      obtain ⟨i13, h⟩ := h
      obtain ⟨e14, h⟩ := h
      refine r_lald C0 hO i13 e14 dL_law_1243 ?_
      refine lv_iload C0.1 C0.2.1 dL_law_1244 (lv_at hl 0 rfl) ?_
      refine lv_if_eq (tgt := 1253) C0.1 C0.2.1 dL_law_1246 (by decide) (fun c15 => ?_) (fun c15 => ?_)
      · replace h := h.1 c15
        refine lv_lconst (v := 0) C0.1 C0.2.1 dL_law_1253 (by decide) ?_
        exact bL_law_b1254 C0 Y hl9 hX9 hbl9 hbA9 hend9 hk28 _ _ _ _ _ _ _ _ _ _ _ _ _ h hO hS (lv_sub hl [2, 3, 4, 5, 6, 7] rfl) (by clear h; omega) (by clear h; omega)
      · replace h := h.2 c15
        refine lv_lconst (v := 1) C0.1 C0.2.1 dL_law_1249 (by decide) ?_
        refine lv_goto (tgt := 1254) C0.1 C0.2.1 dL_law_1250 (by decide) ?_
        exact bL_law_b1254 C0 Y hl9 hX9 hbl9 hbA9 hend9 hk28 _ _ _ _ _ _ _ _ _ _ _ _ _ h hO hS (lv_sub hl [2, 3, 4, 5, 6, 7] rfl) (by clear h; omega) (by clear h; omega)
  · replace h := h.2 c11
    refine lv_iconst (v := 0) C0.1 C0.2.1 dL_law_1234 (by decide) ?_
    exact h.elim
def wL_law_b1316 (x0 : (Nat → Int32)) (L9 : Nat) (k28 : Hp → Nat → Nat → Nat → Nat → Int32 → Prop) (S : Hp) (v1 : Nat) (v2 : Nat) (v3 : Nat) (v4 : Nat) (v5 : Int32) : Prop := wL_law_b3146 x0 L9 k28 S v1 v2 v3 v4 v5
set_option maxHeartbeats 4000000 in
set_option maxRecDepth 100000 in
theorem bL_law_b1316 {p : Program} {l : Launch} {e : Env} {s : State} {m : MethodId} {args : Array Value} {below : List Frame} {meth : Method} {c : Code} {G : Gw} {b9 : Nat} {Q : State → Prop} {x0 : (Nat → Int32)} {L9 : Nat} (C0 : Mx p s m c code 9 args yL_law.cls G) (Y : My meth (some .boolean)) (hl9 : l.stackTraces = false) (hX9 : va_X b9 L9 x0 s s.heap) (hbl9 : b9 < s.heap.size) (hbA9 : ¬ Ab G.b b9) (hend9 : ∀ (pc : Nat) (H : Heap) (locs : List Loc) (ls : Array Slot) (cells slots : Nat), decode code pc = .ok (.ireturn, 1) → va_S (Ab G.b) s.heap H locs → cells ≤ 603072 → slots ≤ 7198826 → W p l e room_1 s m args below meth c H locs cells slots Q (F0 m pc ls [.int 1])) {n9_28 : Nat} {k28 : Hp → Nat → Nat → Nat → Nat → Int32 → Prop} (hk28 : ∀ (S : Hp) (v1 : Nat) (v2 : Nat) (v3 : Nat) (v4 : Nat) (v5 : Int32) (H : Heap) (locs : List Loc) (ls : Array Slot) (cells slots : Nat), k28 S v1 v2 v3 v4 v5 → Ok G S H → va_S (Ab G.b) s.heap H locs → lv_has ls 9 [(0, .ref b9), (1, .ref v1), (2, .ref v2), (3, .ref v3), (4, .ref v4), (5, .int v5)] → cells + (n9_28 * 97 + 97) ≤ 603072 → slots + (n9_28 * 2225 + 2225) ≤ 7198826 → W p l e room_1 s m args below meth c H locs cells slots Q (F0 m 28 ls [])) : ∀ (S : Hp) (v1 : Nat) (v2 : Nat) (v3 : Nat) (v4 : Nat) (v5 : Int32) (H : Heap) (locs : List Loc) (ls : Array Slot) (cells slots : Nat), wL_law_b1316 x0 L9 k28 S v1 v2 v3 v4 v5 → Ok G S H → va_S (Ab G.b) s.heap H locs → lv_has ls 9 [(0, .ref b9), (1, .ref v1), (2, .ref v2), (3, .ref v3), (4, .ref v4), (5, .int v5)] → cells + (n9_28 * 97 + 97) ≤ 603072 → slots + (n9_28 * 2225 + 2225) ≤ 7198826 → W p l e room_1 s m args below meth c H locs cells slots Q (F0 m 1316 ls []) := by
  intro S v1 v2 v3 v4 v5 H locs ls cells slots h hO hS hl hcc hss
  unfold wL_law_b1316 at h
  refine lv_goto (tgt := 3146) C0.1 C0.2.1 dL_law_1316 (by decide) ?_
  exact bL_law_b3146 C0 Y hl9 hX9 hbl9 hbA9 hend9 hk28 _ _ _ _ _ _ _ _ _ _ _ h hO hS (lv_sub hl [0, 1, 2, 3, 4, 5] rfl) (by clear h; omega) (by clear h; omega)
def wL_law_b1263 (x0 : (Nat → Int32)) (L9 : Nat) (k28 : Hp → Nat → Nat → Nat → Nat → Int32 → Prop) (S : Hp) (v1 : Nat) (v2 : Nat) (v3 : Nat) (v4 : Nat) (v5 : Int32) : Prop := vp_in (v5 + 1) L9 ∧ wL_repair S v1 (x0 (v5 + 1).toNatClampNeg) v3 (fun S2 r3 => vp_in (v5 + 1) L9 ∧ isA S2 v2 8 ∧ wX8_repair S2 v2 (x0 (v5 + 1).toNatClampNeg) (fun S5 r6 => isA S5 v2 8 ∧ wX8_thrown S5 v2 (fun S8 r9 => ((r9 = r3 → ((¬ r3 = 0 → wL_law_b1316 x0 L9 k28 S8 v1 v2 v3 v4 v5) ∧ (r3 = 0 → isA S8 v3 22 ∧ vp_in 0 (S8.N v3) ∧ (((lg_cmp (S8.AJ v3 ((0 : Int32).toNatClampNeg)) r6.toInt64) = 0 → wL_law_b1316 x0 L9 k28 S8 v1 v2 v3 v4 v5) ∧ (¬ ((lg_cmp (S8.AJ v3 ((0 : Int32).toNatClampNeg)) r6.toInt64) = 0) → False))))) ∧ (¬ (r9 = r3) → False)))))
set_option maxHeartbeats 4000000 in
set_option maxRecDepth 100000 in
theorem bL_law_b1263 {p : Program} {l : Launch} {e : Env} {s : State} {m : MethodId} {args : Array Value} {below : List Frame} {meth : Method} {c : Code} {G : Gw} {b9 : Nat} {Q : State → Prop} {x0 : (Nat → Int32)} {L9 : Nat} (C0 : Mx p s m c code 9 args yL_law.cls G) (Y : My meth (some .boolean)) (hl9 : l.stackTraces = false) (hX9 : va_X b9 L9 x0 s s.heap) (hbl9 : b9 < s.heap.size) (hbA9 : ¬ Ab G.b b9) (hend9 : ∀ (pc : Nat) (H : Heap) (locs : List Loc) (ls : Array Slot) (cells slots : Nat), decode code pc = .ok (.ireturn, 1) → va_S (Ab G.b) s.heap H locs → cells ≤ 603072 → slots ≤ 7198826 → W p l e room_1 s m args below meth c H locs cells slots Q (F0 m pc ls [.int 1])) {n9_28 : Nat} {k28 : Hp → Nat → Nat → Nat → Nat → Int32 → Prop} (hk28 : ∀ (S : Hp) (v1 : Nat) (v2 : Nat) (v3 : Nat) (v4 : Nat) (v5 : Int32) (H : Heap) (locs : List Loc) (ls : Array Slot) (cells slots : Nat), k28 S v1 v2 v3 v4 v5 → Ok G S H → va_S (Ab G.b) s.heap H locs → lv_has ls 9 [(0, .ref b9), (1, .ref v1), (2, .ref v2), (3, .ref v3), (4, .ref v4), (5, .int v5)] → cells + (n9_28 * 97 + 97) ≤ 603072 → slots + (n9_28 * 2225 + 2225) ≤ 7198826 → W p l e room_1 s m args below meth c H locs cells slots Q (F0 m 28 ls [])) : ∀ (S : Hp) (v1 : Nat) (v2 : Nat) (v3 : Nat) (v4 : Nat) (v5 : Int32) (H : Heap) (locs : List Loc) (ls : Array Slot) (cells slots : Nat), wL_law_b1263 x0 L9 k28 S v1 v2 v3 v4 v5 → Ok G S H → va_S (Ab G.b) s.heap H locs → lv_has ls 9 [(0, .ref b9), (1, .ref v1), (2, .ref v2), (3, .ref v3), (4, .ref v4), (5, .int v5)] → cells + (n9_28 * 97 + 99) ≤ 603072 → slots + (n9_28 * 2225 + 2237) ≤ 7198826 → W p l e room_1 s m args below meth c H locs cells slots Q (F0 m 1263 ls []) := by
  intro S v1 v2 v3 v4 v5 H locs ls cells slots h hO hS hl hcc hss
  unfold wL_law_b1263 at h
  refine lv_aload_n C0.1 C0.2.1 dL_law_1263 rfl (lv_at hl 1 rfl) ?_
  refine lv_aload_n C0.1 C0.2.1 dL_law_1264 rfl (lv_at hl 0 rfl) ?_
  refine lv_iload C0.1 C0.2.1 dL_law_1265 (lv_at hl 5 rfl) ?_
  refine lv_iconst (v := 1) C0.1 C0.2.1 dL_law_1267 (by decide) ?_
  refine lv_iadd C0.1 C0.2.1 dL_law_1268 ?_
  obtain ⟨e1, h⟩ := h
  refine va_sld C0.1 C0.2.1 hX9 hbl9 hbA9 hS e1 dL_law_1269 ?_
  refine lv_aload_n C0.1 C0.2.1 dL_law_1270 rfl (lv_at hl 3 rfl) ?_
  refine c_SW C0 hO hS (mL_repair hl9 h) tb_942 tb_943 tb_73 tb_944 hd_L_repair rfl ⟨⟨by decide, by decide⟩, by show _ + 2 ≤ 603072; omega, by show _ + 12 ≤ 7198826; omega⟩ hl.1 rfl (Nat.le_of_ble_eq_true rfl) dL_law_1271 (kI (fun r3 S2 H locs h hO hS => ?_))
  change W _ _ _ _ _ _ _ _ _ _ _ _ (_ + 2) (_ + 12) _ _
  refine lv_istore C0.1 C0.2.1 dL_law_1274 hl (by decide) rfl (fun ls hl => ?_)
  refine lv_aload_n C0.1 C0.2.1 dL_law_1276 rfl (lv_at hl 3 rfl) ?_
  refine lv_aload_n C0.1 C0.2.1 dL_law_1277 rfl (lv_at hl 1 rfl) ?_
  refine lv_iload C0.1 C0.2.1 dL_law_1278 (lv_at hl 6 rfl) ?_
  refine lv_iconst (v := 1) C0.1 C0.2.1 dL_law_1280 (by decide) ?_
  refine lv_iadd C0.1 C0.2.1 dL_law_1281 ?_
  obtain ⟨e4, h⟩ := h
  refine va_sld C0.1 C0.2.1 hX9 hbl9 hbA9 hS e4 dL_law_1282 ?_
  obtain ⟨i7, h⟩ := h
  refine c_V C0 hO hS (mX8_repair h) i7 (by decide) rfl rfl tb_1611 tb_1612 tb_1613 tb_81 tb_1614 hd_X8_repair rfl ⟨⟨by decide, by decide⟩, by show _ + 0 ≤ 603072; omega, by show _ + 0 ≤ 7198826; omega⟩ hl.1 rfl (Nat.le_of_ble_eq_true rfl) dL_law_1283 (kI (fun r6 S5 H locs h hO hS => ?_))
  change W _ _ _ _ _ _ _ _ _ _ _ _ (_ + 0) (_ + 0) _ _
  refine lv_istore C0.1 C0.2.1 dL_law_1286 hl (by decide) rfl (fun ls hl => ?_)
  refine lv_aload_n C0.1 C0.2.1 dL_law_1288 rfl (lv_at hl 4 rfl) ?_
  obtain ⟨i10, h⟩ := h
  refine c_V C0 hO hS (mX8_thrown h) i10 (by decide) rfl rfl tb_1443 tb_1444 tb_1445 tb_81 tb_1446 hd_X8_thrown rfl ⟨⟨by decide, by decide⟩, by show _ + 0 ≤ 603072; omega, by show _ + 0 ≤ 7198826; omega⟩ hl.1 rfl (Nat.le_of_ble_eq_true rfl) dL_law_1289 (kI (fun r9 S8 H locs h hO hS => ?_))
  change W _ _ _ _ _ _ _ _ _ _ _ _ (_ + 0) (_ + 0) _ _
  refine lv_iload C0.1 C0.2.1 dL_law_1292 (lv_at hl 1 rfl) ?_
  refine lv_icmp_eq (tgt := 1299) C0.1 C0.2.1 dL_law_1294 (by decide) (fun c11 => ?_) (fun c11 => ?_)
  · replace h := h.1 c11
    refine lv_iload C0.1 C0.2.1 dL_law_1299 (lv_at hl 1 rfl) ?_
    refine lv_if_ne (tgt := 1316) C0.1 C0.2.1 dL_law_1301 (by decide) (fun c12 => ?_) (fun c12 => ?_)
    · replace h := h.1 c12
      exact bL_law_b1316 C0 Y hl9 hX9 hbl9 hbA9 hend9 hk28 _ _ _ _ _ _ _ _ _ _ _ h hO hS (lv_sub hl [2, 3, 4, 5, 6, 7] rfl) (by clear h; omega) (by clear h; omega)
    · replace h := h.2 c12
      refine lv_aload_n C0.1 C0.2.1 dL_law_1304 rfl (lv_at hl 5 rfl) ?_
      refine lv_iconst (v := 0) C0.1 C0.2.1 dL_law_1305 (by decide) ?_
      obtain ⟨i13, h⟩ := h
      obtain ⟨e14, h⟩ := h
      refine r_lald C0 hO i13 e14 dL_law_1306 ?_
      refine lv_iload C0.1 C0.2.1 dL_law_1307 (lv_at hl 0 rfl) ?_
      refine lv_i2l C0.1 C0.2.1 dL_law_1309 rfl ?_
      refine W.lcmp C0.1 C0.2.1 dL_law_1310 ?_
      refine lv_if_eq (tgt := 1316) C0.1 C0.2.1 dL_law_1311 (by decide) (fun c15 => ?_) (fun c15 => ?_)
      · replace h := h.1 c15
        exact bL_law_b1316 C0 Y hl9 hX9 hbl9 hbA9 hend9 hk28 _ _ _ _ _ _ _ _ _ _ _ h hO hS (lv_sub hl [2, 3, 4, 5, 6, 7] rfl) (by clear h; omega) (by clear h; omega)
      · replace h := h.2 c15
        refine lv_iconst (v := 0) C0.1 C0.2.1 dL_law_1314 (by decide) ?_
        exact h.elim
  · replace h := h.2 c11
    refine lv_iconst (v := 0) C0.1 C0.2.1 dL_law_1297 (by decide) ?_
    exact h.elim
def wL_law_b1371 (x0 : (Nat → Int32)) (L9 : Nat) (k28 : Hp → Nat → Nat → Nat → Nat → Int32 → Prop) (S : Hp) (v1 : Nat) (v2 : Nat) (v3 : Nat) (v4 : Nat) (v5 : Int32) : Prop := wL_law_b3146 x0 L9 k28 S v1 v2 v3 v4 v5
set_option maxHeartbeats 4000000 in
set_option maxRecDepth 100000 in
theorem bL_law_b1371 {p : Program} {l : Launch} {e : Env} {s : State} {m : MethodId} {args : Array Value} {below : List Frame} {meth : Method} {c : Code} {G : Gw} {b9 : Nat} {Q : State → Prop} {x0 : (Nat → Int32)} {L9 : Nat} (C0 : Mx p s m c code 9 args yL_law.cls G) (Y : My meth (some .boolean)) (hl9 : l.stackTraces = false) (hX9 : va_X b9 L9 x0 s s.heap) (hbl9 : b9 < s.heap.size) (hbA9 : ¬ Ab G.b b9) (hend9 : ∀ (pc : Nat) (H : Heap) (locs : List Loc) (ls : Array Slot) (cells slots : Nat), decode code pc = .ok (.ireturn, 1) → va_S (Ab G.b) s.heap H locs → cells ≤ 603072 → slots ≤ 7198826 → W p l e room_1 s m args below meth c H locs cells slots Q (F0 m pc ls [.int 1])) {n9_28 : Nat} {k28 : Hp → Nat → Nat → Nat → Nat → Int32 → Prop} (hk28 : ∀ (S : Hp) (v1 : Nat) (v2 : Nat) (v3 : Nat) (v4 : Nat) (v5 : Int32) (H : Heap) (locs : List Loc) (ls : Array Slot) (cells slots : Nat), k28 S v1 v2 v3 v4 v5 → Ok G S H → va_S (Ab G.b) s.heap H locs → lv_has ls 9 [(0, .ref b9), (1, .ref v1), (2, .ref v2), (3, .ref v3), (4, .ref v4), (5, .int v5)] → cells + (n9_28 * 97 + 97) ≤ 603072 → slots + (n9_28 * 2225 + 2225) ≤ 7198826 → W p l e room_1 s m args below meth c H locs cells slots Q (F0 m 28 ls [])) : ∀ (S : Hp) (v1 : Nat) (v2 : Nat) (v3 : Nat) (v4 : Nat) (v5 : Int32) (H : Heap) (locs : List Loc) (ls : Array Slot) (cells slots : Nat), wL_law_b1371 x0 L9 k28 S v1 v2 v3 v4 v5 → Ok G S H → va_S (Ab G.b) s.heap H locs → lv_has ls 9 [(0, .ref b9), (1, .ref v1), (2, .ref v2), (3, .ref v3), (4, .ref v4), (5, .int v5)] → cells + (n9_28 * 97 + 97) ≤ 603072 → slots + (n9_28 * 2225 + 2225) ≤ 7198826 → W p l e room_1 s m args below meth c H locs cells slots Q (F0 m 1371 ls []) := by
  intro S v1 v2 v3 v4 v5 H locs ls cells slots h hO hS hl hcc hss
  unfold wL_law_b1371 at h
  refine lv_goto (tgt := 3146) C0.1 C0.2.1 dL_law_1371 (by decide) ?_
  exact bL_law_b3146 C0 Y hl9 hX9 hbl9 hbA9 hend9 hk28 _ _ _ _ _ _ _ _ _ _ _ h hO hS (lv_sub hl [0, 1, 2, 3, 4, 5] rfl) (by clear h; omega) (by clear h; omega)
def wL_law_b1319 (x0 : (Nat → Int32)) (L9 : Nat) (k28 : Hp → Nat → Nat → Nat → Nat → Int32 → Prop) (S : Hp) (v1 : Nat) (v2 : Nat) (v3 : Nat) (v4 : Nat) (v5 : Int32) : Prop := vp_in (v5 + 1) L9 ∧ wL_slackOfOver S v1 (x0 (v5 + 1).toNatClampNeg) v3 (fun S2 r3 => vp_in (v5 + 1) L9 ∧ isA S2 v2 8 ∧ wX8_slackOfOver S2 v2 (x0 (v5 + 1).toNatClampNeg) (fun S5 r6 => isA S5 v2 8 ∧ wX8_thrown S5 v2 (fun S8 r9 => ((r9 = r3 → ((¬ r3 = 0 → wL_law_b1371 x0 L9 k28 S8 v1 v2 v3 v4 v5) ∧ (r3 = 0 → isA S8 v3 22 ∧ vp_in 0 (S8.N v3) ∧ (((lg_cmp (S8.AJ v3 ((0 : Int32).toNatClampNeg)) r6) = 0 → wL_law_b1371 x0 L9 k28 S8 v1 v2 v3 v4 v5) ∧ (¬ ((lg_cmp (S8.AJ v3 ((0 : Int32).toNatClampNeg)) r6) = 0) → False))))) ∧ (¬ (r9 = r3) → False)))))
set_option maxHeartbeats 4000000 in
set_option maxRecDepth 100000 in
theorem bL_law_b1319 {p : Program} {l : Launch} {e : Env} {s : State} {m : MethodId} {args : Array Value} {below : List Frame} {meth : Method} {c : Code} {G : Gw} {b9 : Nat} {Q : State → Prop} {x0 : (Nat → Int32)} {L9 : Nat} (C0 : Mx p s m c code 9 args yL_law.cls G) (Y : My meth (some .boolean)) (hl9 : l.stackTraces = false) (hX9 : va_X b9 L9 x0 s s.heap) (hbl9 : b9 < s.heap.size) (hbA9 : ¬ Ab G.b b9) (hend9 : ∀ (pc : Nat) (H : Heap) (locs : List Loc) (ls : Array Slot) (cells slots : Nat), decode code pc = .ok (.ireturn, 1) → va_S (Ab G.b) s.heap H locs → cells ≤ 603072 → slots ≤ 7198826 → W p l e room_1 s m args below meth c H locs cells slots Q (F0 m pc ls [.int 1])) {n9_28 : Nat} {k28 : Hp → Nat → Nat → Nat → Nat → Int32 → Prop} (hk28 : ∀ (S : Hp) (v1 : Nat) (v2 : Nat) (v3 : Nat) (v4 : Nat) (v5 : Int32) (H : Heap) (locs : List Loc) (ls : Array Slot) (cells slots : Nat), k28 S v1 v2 v3 v4 v5 → Ok G S H → va_S (Ab G.b) s.heap H locs → lv_has ls 9 [(0, .ref b9), (1, .ref v1), (2, .ref v2), (3, .ref v3), (4, .ref v4), (5, .int v5)] → cells + (n9_28 * 97 + 97) ≤ 603072 → slots + (n9_28 * 2225 + 2225) ≤ 7198826 → W p l e room_1 s m args below meth c H locs cells slots Q (F0 m 28 ls [])) : ∀ (S : Hp) (v1 : Nat) (v2 : Nat) (v3 : Nat) (v4 : Nat) (v5 : Int32) (H : Heap) (locs : List Loc) (ls : Array Slot) (cells slots : Nat), wL_law_b1319 x0 L9 k28 S v1 v2 v3 v4 v5 → Ok G S H → va_S (Ab G.b) s.heap H locs → lv_has ls 9 [(0, .ref b9), (1, .ref v1), (2, .ref v2), (3, .ref v3), (4, .ref v4), (5, .int v5)] → cells + (n9_28 * 97 + 98) ≤ 603072 → slots + (n9_28 * 2225 + 2231) ≤ 7198826 → W p l e room_1 s m args below meth c H locs cells slots Q (F0 m 1319 ls []) := by
  intro S v1 v2 v3 v4 v5 H locs ls cells slots h hO hS hl hcc hss
  unfold wL_law_b1319 at h
  refine lv_aload_n C0.1 C0.2.1 dL_law_1319 rfl (lv_at hl 1 rfl) ?_
  refine lv_aload_n C0.1 C0.2.1 dL_law_1320 rfl (lv_at hl 0 rfl) ?_
  refine lv_iload C0.1 C0.2.1 dL_law_1321 (lv_at hl 5 rfl) ?_
  refine lv_iconst (v := 1) C0.1 C0.2.1 dL_law_1323 (by decide) ?_
  refine lv_iadd C0.1 C0.2.1 dL_law_1324 ?_
  obtain ⟨e1, h⟩ := h
  refine va_sld C0.1 C0.2.1 hX9 hbl9 hbA9 hS e1 dL_law_1325 ?_
  refine lv_aload_n C0.1 C0.2.1 dL_law_1326 rfl (lv_at hl 3 rfl) ?_
  refine c_SW C0 hO hS (mL_slackOfOver hl9 h) tb_954 tb_955 tb_73 tb_956 hd_L_slackOfOver rfl ⟨⟨by decide, by decide⟩, by show _ + 1 ≤ 603072; omega, by show _ + 6 ≤ 7198826; omega⟩ hl.1 rfl (Nat.le_of_ble_eq_true rfl) dL_law_1327 (kI (fun r3 S2 H locs h hO hS => ?_))
  change W _ _ _ _ _ _ _ _ _ _ _ _ (_ + 1) (_ + 6) _ _
  refine lv_istore C0.1 C0.2.1 dL_law_1330 hl (by decide) rfl (fun ls hl => ?_)
  refine lv_aload_n C0.1 C0.2.1 dL_law_1332 rfl (lv_at hl 3 rfl) ?_
  refine lv_aload_n C0.1 C0.2.1 dL_law_1333 rfl (lv_at hl 1 rfl) ?_
  refine lv_iload C0.1 C0.2.1 dL_law_1334 (lv_at hl 6 rfl) ?_
  refine lv_iconst (v := 1) C0.1 C0.2.1 dL_law_1336 (by decide) ?_
  refine lv_iadd C0.1 C0.2.1 dL_law_1337 ?_
  obtain ⟨e4, h⟩ := h
  refine va_sld C0.1 C0.2.1 hX9 hbl9 hbA9 hS e4 dL_law_1338 ?_
  obtain ⟨i7, h⟩ := h
  refine c_V C0 hO hS (mX8_slackOfOver h) i7 (by decide) rfl rfl tb_1615 tb_1616 tb_1617 tb_81 tb_1618 hd_X8_slackOfOver rfl ⟨⟨by decide, by decide⟩, by show _ + 0 ≤ 603072; omega, by show _ + 0 ≤ 7198826; omega⟩ hl.1 rfl (Nat.le_of_ble_eq_true rfl) dL_law_1339 (kJ (fun r6 S5 H locs h hO hS => ?_))
  change W _ _ _ _ _ _ _ _ _ _ _ _ (_ + 0) (_ + 0) _ _
  refine lv_lstore C0.1 C0.2.1 dL_law_1342 hl (by decide) rfl (fun ls hl => ?_)
  refine lv_aload_n C0.1 C0.2.1 dL_law_1344 rfl (lv_at hl 4 rfl) ?_
  obtain ⟨i10, h⟩ := h
  refine c_V C0 hO hS (mX8_thrown h) i10 (by decide) rfl rfl tb_1443 tb_1444 tb_1445 tb_81 tb_1446 hd_X8_thrown rfl ⟨⟨by decide, by decide⟩, by show _ + 0 ≤ 603072; omega, by show _ + 0 ≤ 7198826; omega⟩ hl.1 rfl (Nat.le_of_ble_eq_true rfl) dL_law_1345 (kI (fun r9 S8 H locs h hO hS => ?_))
  change W _ _ _ _ _ _ _ _ _ _ _ _ (_ + 0) (_ + 0) _ _
  refine lv_iload C0.1 C0.2.1 dL_law_1348 (lv_at hl 1 rfl) ?_
  refine lv_icmp_eq (tgt := 1355) C0.1 C0.2.1 dL_law_1350 (by decide) (fun c11 => ?_) (fun c11 => ?_)
  · replace h := h.1 c11
    refine lv_iload C0.1 C0.2.1 dL_law_1355 (lv_at hl 1 rfl) ?_
    refine lv_if_ne (tgt := 1371) C0.1 C0.2.1 dL_law_1357 (by decide) (fun c12 => ?_) (fun c12 => ?_)
    · replace h := h.1 c12
      exact bL_law_b1371 C0 Y hl9 hX9 hbl9 hbA9 hend9 hk28 _ _ _ _ _ _ _ _ _ _ _ h hO hS (lv_sub hl [2, 3, 4, 5, 6, 7] rfl) (by clear h; omega) (by clear h; omega)
    · replace h := h.2 c12
      refine lv_aload_n C0.1 C0.2.1 dL_law_1360 rfl (lv_at hl 5 rfl) ?_
      refine lv_iconst (v := 0) C0.1 C0.2.1 dL_law_1361 (by decide) ?_
      obtain ⟨i13, h⟩ := h
      obtain ⟨e14, h⟩ := h
      refine r_lald C0 hO i13 e14 dL_law_1362 ?_
      refine lv_lload C0.1 C0.2.1 dL_law_1363 (lv_at hl 0 rfl) ?_
      refine W.lcmp C0.1 C0.2.1 dL_law_1365 ?_
      refine lv_if_eq (tgt := 1371) C0.1 C0.2.1 dL_law_1366 (by decide) (fun c15 => ?_) (fun c15 => ?_)
      · replace h := h.1 c15
        exact bL_law_b1371 C0 Y hl9 hX9 hbl9 hbA9 hend9 hk28 _ _ _ _ _ _ _ _ _ _ _ h hO hS (lv_sub hl [2, 3, 4, 5, 6, 7] rfl) (by clear h; omega) (by clear h; omega)
      · replace h := h.2 c15
        refine lv_iconst (v := 0) C0.1 C0.2.1 dL_law_1369 (by decide) ?_
        exact h.elim
  · replace h := h.2 c11
    refine lv_iconst (v := 0) C0.1 C0.2.1 dL_law_1353 (by decide) ?_
    exact h.elim
def wL_law_b1426 (x0 : (Nat → Int32)) (L9 : Nat) (k28 : Hp → Nat → Nat → Nat → Nat → Int32 → Prop) (S : Hp) (v1 : Nat) (v2 : Nat) (v3 : Nat) (v4 : Nat) (v5 : Int32) : Prop := wL_law_b3146 x0 L9 k28 S v1 v2 v3 v4 v5
set_option maxHeartbeats 4000000 in
set_option maxRecDepth 100000 in
theorem bL_law_b1426 {p : Program} {l : Launch} {e : Env} {s : State} {m : MethodId} {args : Array Value} {below : List Frame} {meth : Method} {c : Code} {G : Gw} {b9 : Nat} {Q : State → Prop} {x0 : (Nat → Int32)} {L9 : Nat} (C0 : Mx p s m c code 9 args yL_law.cls G) (Y : My meth (some .boolean)) (hl9 : l.stackTraces = false) (hX9 : va_X b9 L9 x0 s s.heap) (hbl9 : b9 < s.heap.size) (hbA9 : ¬ Ab G.b b9) (hend9 : ∀ (pc : Nat) (H : Heap) (locs : List Loc) (ls : Array Slot) (cells slots : Nat), decode code pc = .ok (.ireturn, 1) → va_S (Ab G.b) s.heap H locs → cells ≤ 603072 → slots ≤ 7198826 → W p l e room_1 s m args below meth c H locs cells slots Q (F0 m pc ls [.int 1])) {n9_28 : Nat} {k28 : Hp → Nat → Nat → Nat → Nat → Int32 → Prop} (hk28 : ∀ (S : Hp) (v1 : Nat) (v2 : Nat) (v3 : Nat) (v4 : Nat) (v5 : Int32) (H : Heap) (locs : List Loc) (ls : Array Slot) (cells slots : Nat), k28 S v1 v2 v3 v4 v5 → Ok G S H → va_S (Ab G.b) s.heap H locs → lv_has ls 9 [(0, .ref b9), (1, .ref v1), (2, .ref v2), (3, .ref v3), (4, .ref v4), (5, .int v5)] → cells + (n9_28 * 97 + 97) ≤ 603072 → slots + (n9_28 * 2225 + 2225) ≤ 7198826 → W p l e room_1 s m args below meth c H locs cells slots Q (F0 m 28 ls [])) : ∀ (S : Hp) (v1 : Nat) (v2 : Nat) (v3 : Nat) (v4 : Nat) (v5 : Int32) (H : Heap) (locs : List Loc) (ls : Array Slot) (cells slots : Nat), wL_law_b1426 x0 L9 k28 S v1 v2 v3 v4 v5 → Ok G S H → va_S (Ab G.b) s.heap H locs → lv_has ls 9 [(0, .ref b9), (1, .ref v1), (2, .ref v2), (3, .ref v3), (4, .ref v4), (5, .int v5)] → cells + (n9_28 * 97 + 97) ≤ 603072 → slots + (n9_28 * 2225 + 2225) ≤ 7198826 → W p l e room_1 s m args below meth c H locs cells slots Q (F0 m 1426 ls []) := by
  intro S v1 v2 v3 v4 v5 H locs ls cells slots h hO hS hl hcc hss
  unfold wL_law_b1426 at h
  refine lv_goto (tgt := 3146) C0.1 C0.2.1 dL_law_1426 (by decide) ?_
  exact bL_law_b3146 C0 Y hl9 hX9 hbl9 hbA9 hend9 hk28 _ _ _ _ _ _ _ _ _ _ _ h hO hS (lv_sub hl [0, 1, 2, 3, 4, 5] rfl) (by clear h; omega) (by clear h; omega)
def wL_law_b1374 (x0 : (Nat → Int32)) (L9 : Nat) (k28 : Hp → Nat → Nat → Nat → Nat → Int32 → Prop) (S : Hp) (v1 : Nat) (v2 : Nat) (v3 : Nat) (v4 : Nat) (v5 : Int32) : Prop := vp_in (v5 + 1) L9 ∧ wL_slackOfUnder S v1 (x0 (v5 + 1).toNatClampNeg) v3 (fun S2 r3 => vp_in (v5 + 1) L9 ∧ isA S2 v2 8 ∧ wX8_slackOfUnder S2 v2 (x0 (v5 + 1).toNatClampNeg) (fun S5 r6 => isA S5 v2 8 ∧ wX8_thrown S5 v2 (fun S8 r9 => ((r9 = r3 → ((¬ r3 = 0 → wL_law_b1426 x0 L9 k28 S8 v1 v2 v3 v4 v5) ∧ (r3 = 0 → isA S8 v3 22 ∧ vp_in 0 (S8.N v3) ∧ (((lg_cmp (S8.AJ v3 ((0 : Int32).toNatClampNeg)) r6) = 0 → wL_law_b1426 x0 L9 k28 S8 v1 v2 v3 v4 v5) ∧ (¬ ((lg_cmp (S8.AJ v3 ((0 : Int32).toNatClampNeg)) r6) = 0) → False))))) ∧ (¬ (r9 = r3) → False)))))
set_option maxHeartbeats 4000000 in
set_option maxRecDepth 100000 in
theorem bL_law_b1374 {p : Program} {l : Launch} {e : Env} {s : State} {m : MethodId} {args : Array Value} {below : List Frame} {meth : Method} {c : Code} {G : Gw} {b9 : Nat} {Q : State → Prop} {x0 : (Nat → Int32)} {L9 : Nat} (C0 : Mx p s m c code 9 args yL_law.cls G) (Y : My meth (some .boolean)) (hl9 : l.stackTraces = false) (hX9 : va_X b9 L9 x0 s s.heap) (hbl9 : b9 < s.heap.size) (hbA9 : ¬ Ab G.b b9) (hend9 : ∀ (pc : Nat) (H : Heap) (locs : List Loc) (ls : Array Slot) (cells slots : Nat), decode code pc = .ok (.ireturn, 1) → va_S (Ab G.b) s.heap H locs → cells ≤ 603072 → slots ≤ 7198826 → W p l e room_1 s m args below meth c H locs cells slots Q (F0 m pc ls [.int 1])) {n9_28 : Nat} {k28 : Hp → Nat → Nat → Nat → Nat → Int32 → Prop} (hk28 : ∀ (S : Hp) (v1 : Nat) (v2 : Nat) (v3 : Nat) (v4 : Nat) (v5 : Int32) (H : Heap) (locs : List Loc) (ls : Array Slot) (cells slots : Nat), k28 S v1 v2 v3 v4 v5 → Ok G S H → va_S (Ab G.b) s.heap H locs → lv_has ls 9 [(0, .ref b9), (1, .ref v1), (2, .ref v2), (3, .ref v3), (4, .ref v4), (5, .int v5)] → cells + (n9_28 * 97 + 97) ≤ 603072 → slots + (n9_28 * 2225 + 2225) ≤ 7198826 → W p l e room_1 s m args below meth c H locs cells slots Q (F0 m 28 ls [])) : ∀ (S : Hp) (v1 : Nat) (v2 : Nat) (v3 : Nat) (v4 : Nat) (v5 : Int32) (H : Heap) (locs : List Loc) (ls : Array Slot) (cells slots : Nat), wL_law_b1374 x0 L9 k28 S v1 v2 v3 v4 v5 → Ok G S H → va_S (Ab G.b) s.heap H locs → lv_has ls 9 [(0, .ref b9), (1, .ref v1), (2, .ref v2), (3, .ref v3), (4, .ref v4), (5, .int v5)] → cells + (n9_28 * 97 + 98) ≤ 603072 → slots + (n9_28 * 2225 + 2231) ≤ 7198826 → W p l e room_1 s m args below meth c H locs cells slots Q (F0 m 1374 ls []) := by
  intro S v1 v2 v3 v4 v5 H locs ls cells slots h hO hS hl hcc hss
  unfold wL_law_b1374 at h
  refine lv_aload_n C0.1 C0.2.1 dL_law_1374 rfl (lv_at hl 1 rfl) ?_
  refine lv_aload_n C0.1 C0.2.1 dL_law_1375 rfl (lv_at hl 0 rfl) ?_
  refine lv_iload C0.1 C0.2.1 dL_law_1376 (lv_at hl 5 rfl) ?_
  refine lv_iconst (v := 1) C0.1 C0.2.1 dL_law_1378 (by decide) ?_
  refine lv_iadd C0.1 C0.2.1 dL_law_1379 ?_
  obtain ⟨e1, h⟩ := h
  refine va_sld C0.1 C0.2.1 hX9 hbl9 hbA9 hS e1 dL_law_1380 ?_
  refine lv_aload_n C0.1 C0.2.1 dL_law_1381 rfl (lv_at hl 3 rfl) ?_
  refine c_SW C0 hO hS (mL_slackOfUnder hl9 h) tb_965 tb_966 tb_73 tb_967 hd_L_slackOfUnder rfl ⟨⟨by decide, by decide⟩, by show _ + 1 ≤ 603072; omega, by show _ + 6 ≤ 7198826; omega⟩ hl.1 rfl (Nat.le_of_ble_eq_true rfl) dL_law_1382 (kI (fun r3 S2 H locs h hO hS => ?_))
  change W _ _ _ _ _ _ _ _ _ _ _ _ (_ + 1) (_ + 6) _ _
  refine lv_istore C0.1 C0.2.1 dL_law_1385 hl (by decide) rfl (fun ls hl => ?_)
  refine lv_aload_n C0.1 C0.2.1 dL_law_1387 rfl (lv_at hl 3 rfl) ?_
  refine lv_aload_n C0.1 C0.2.1 dL_law_1388 rfl (lv_at hl 1 rfl) ?_
  refine lv_iload C0.1 C0.2.1 dL_law_1389 (lv_at hl 6 rfl) ?_
  refine lv_iconst (v := 1) C0.1 C0.2.1 dL_law_1391 (by decide) ?_
  refine lv_iadd C0.1 C0.2.1 dL_law_1392 ?_
  obtain ⟨e4, h⟩ := h
  refine va_sld C0.1 C0.2.1 hX9 hbl9 hbA9 hS e4 dL_law_1393 ?_
  obtain ⟨i7, h⟩ := h
  refine c_V C0 hO hS (mX8_slackOfUnder h) i7 (by decide) rfl rfl tb_1627 tb_1628 tb_1629 tb_81 tb_1630 hd_X8_slackOfUnder rfl ⟨⟨by decide, by decide⟩, by show _ + 0 ≤ 603072; omega, by show _ + 0 ≤ 7198826; omega⟩ hl.1 rfl (Nat.le_of_ble_eq_true rfl) dL_law_1394 (kJ (fun r6 S5 H locs h hO hS => ?_))
  change W _ _ _ _ _ _ _ _ _ _ _ _ (_ + 0) (_ + 0) _ _
  refine lv_lstore C0.1 C0.2.1 dL_law_1397 hl (by decide) rfl (fun ls hl => ?_)
  refine lv_aload_n C0.1 C0.2.1 dL_law_1399 rfl (lv_at hl 4 rfl) ?_
  obtain ⟨i10, h⟩ := h
  refine c_V C0 hO hS (mX8_thrown h) i10 (by decide) rfl rfl tb_1443 tb_1444 tb_1445 tb_81 tb_1446 hd_X8_thrown rfl ⟨⟨by decide, by decide⟩, by show _ + 0 ≤ 603072; omega, by show _ + 0 ≤ 7198826; omega⟩ hl.1 rfl (Nat.le_of_ble_eq_true rfl) dL_law_1400 (kI (fun r9 S8 H locs h hO hS => ?_))
  change W _ _ _ _ _ _ _ _ _ _ _ _ (_ + 0) (_ + 0) _ _
  refine lv_iload C0.1 C0.2.1 dL_law_1403 (lv_at hl 1 rfl) ?_
  refine lv_icmp_eq (tgt := 1410) C0.1 C0.2.1 dL_law_1405 (by decide) (fun c11 => ?_) (fun c11 => ?_)
  · replace h := h.1 c11
    refine lv_iload C0.1 C0.2.1 dL_law_1410 (lv_at hl 1 rfl) ?_
    refine lv_if_ne (tgt := 1426) C0.1 C0.2.1 dL_law_1412 (by decide) (fun c12 => ?_) (fun c12 => ?_)
    · replace h := h.1 c12
      exact bL_law_b1426 C0 Y hl9 hX9 hbl9 hbA9 hend9 hk28 _ _ _ _ _ _ _ _ _ _ _ h hO hS (lv_sub hl [2, 3, 4, 5, 6, 7] rfl) (by clear h; omega) (by clear h; omega)
    · replace h := h.2 c12
      refine lv_aload_n C0.1 C0.2.1 dL_law_1415 rfl (lv_at hl 5 rfl) ?_
      refine lv_iconst (v := 0) C0.1 C0.2.1 dL_law_1416 (by decide) ?_
      obtain ⟨i13, h⟩ := h
      obtain ⟨e14, h⟩ := h
      refine r_lald C0 hO i13 e14 dL_law_1417 ?_
      refine lv_lload C0.1 C0.2.1 dL_law_1418 (lv_at hl 0 rfl) ?_
      refine W.lcmp C0.1 C0.2.1 dL_law_1420 ?_
      refine lv_if_eq (tgt := 1426) C0.1 C0.2.1 dL_law_1421 (by decide) (fun c15 => ?_) (fun c15 => ?_)
      · replace h := h.1 c15
        exact bL_law_b1426 C0 Y hl9 hX9 hbl9 hbA9 hend9 hk28 _ _ _ _ _ _ _ _ _ _ _ h hO hS (lv_sub hl [2, 3, 4, 5, 6, 7] rfl) (by clear h; omega) (by clear h; omega)
      · replace h := h.2 c15
        refine lv_iconst (v := 0) C0.1 C0.2.1 dL_law_1424 (by decide) ?_
        exact h.elim
  · replace h := h.2 c11
    refine lv_iconst (v := 0) C0.1 C0.2.1 dL_law_1408 (by decide) ?_
    exact h.elim
def wL_law_b1482 (x0 : (Nat → Int32)) (L9 : Nat) (k28 : Hp → Nat → Nat → Nat → Nat → Int32 → Prop) (S : Hp) (v1 : Nat) (v2 : Nat) (v3 : Nat) (v4 : Nat) (v5 : Int32) : Prop := wL_law_b3146 x0 L9 k28 S v1 v2 v3 v4 v5
set_option maxHeartbeats 4000000 in
set_option maxRecDepth 100000 in
theorem bL_law_b1482 {p : Program} {l : Launch} {e : Env} {s : State} {m : MethodId} {args : Array Value} {below : List Frame} {meth : Method} {c : Code} {G : Gw} {b9 : Nat} {Q : State → Prop} {x0 : (Nat → Int32)} {L9 : Nat} (C0 : Mx p s m c code 9 args yL_law.cls G) (Y : My meth (some .boolean)) (hl9 : l.stackTraces = false) (hX9 : va_X b9 L9 x0 s s.heap) (hbl9 : b9 < s.heap.size) (hbA9 : ¬ Ab G.b b9) (hend9 : ∀ (pc : Nat) (H : Heap) (locs : List Loc) (ls : Array Slot) (cells slots : Nat), decode code pc = .ok (.ireturn, 1) → va_S (Ab G.b) s.heap H locs → cells ≤ 603072 → slots ≤ 7198826 → W p l e room_1 s m args below meth c H locs cells slots Q (F0 m pc ls [.int 1])) {n9_28 : Nat} {k28 : Hp → Nat → Nat → Nat → Nat → Int32 → Prop} (hk28 : ∀ (S : Hp) (v1 : Nat) (v2 : Nat) (v3 : Nat) (v4 : Nat) (v5 : Int32) (H : Heap) (locs : List Loc) (ls : Array Slot) (cells slots : Nat), k28 S v1 v2 v3 v4 v5 → Ok G S H → va_S (Ab G.b) s.heap H locs → lv_has ls 9 [(0, .ref b9), (1, .ref v1), (2, .ref v2), (3, .ref v3), (4, .ref v4), (5, .int v5)] → cells + (n9_28 * 97 + 97) ≤ 603072 → slots + (n9_28 * 2225 + 2225) ≤ 7198826 → W p l e room_1 s m args below meth c H locs cells slots Q (F0 m 28 ls [])) : ∀ (S : Hp) (v1 : Nat) (v2 : Nat) (v3 : Nat) (v4 : Nat) (v5 : Int32) (H : Heap) (locs : List Loc) (ls : Array Slot) (cells slots : Nat), wL_law_b1482 x0 L9 k28 S v1 v2 v3 v4 v5 → Ok G S H → va_S (Ab G.b) s.heap H locs → lv_has ls 9 [(0, .ref b9), (1, .ref v1), (2, .ref v2), (3, .ref v3), (4, .ref v4), (5, .int v5)] → cells + (n9_28 * 97 + 97) ≤ 603072 → slots + (n9_28 * 2225 + 2225) ≤ 7198826 → W p l e room_1 s m args below meth c H locs cells slots Q (F0 m 1482 ls []) := by
  intro S v1 v2 v3 v4 v5 H locs ls cells slots h hO hS hl hcc hss
  unfold wL_law_b1482 at h
  refine lv_goto (tgt := 3146) C0.1 C0.2.1 dL_law_1482 (by decide) ?_
  exact bL_law_b3146 C0 Y hl9 hX9 hbl9 hbA9 hend9 hk28 _ _ _ _ _ _ _ _ _ _ _ h hO hS (lv_sub hl [0, 1, 2, 3, 4, 5] rfl) (by clear h; omega) (by clear h; omega)
def wL_law_b1429 (x0 : (Nat → Int32)) (L9 : Nat) (k28 : Hp → Nat → Nat → Nat → Nat → Int32 → Prop) (S : Hp) (v1 : Nat) (v2 : Nat) (v3 : Nat) (v4 : Nat) (v5 : Int32) : Prop := vp_in (v5 + 1) L9 ∧ wL_cam S v1 (x0 (v5 + 1).toNatClampNeg) v3 (fun S2 r3 => vp_in (v5 + 1) L9 ∧ isA S2 v2 8 ∧ wX8_cam S2 v2 (x0 (v5 + 1).toNatClampNeg) (fun S5 r6 => isA S5 v2 8 ∧ wX8_thrown S5 v2 (fun S8 r9 => ((r9 = r3 → ((¬ r3 = 0 → wL_law_b1482 x0 L9 k28 S8 v1 v2 v3 v4 v5) ∧ (r3 = 0 → isA S8 v3 22 ∧ vp_in 0 (S8.N v3) ∧ (((lg_cmp (S8.AJ v3 ((0 : Int32).toNatClampNeg)) r6.toInt64) = 0 → wL_law_b1482 x0 L9 k28 S8 v1 v2 v3 v4 v5) ∧ (¬ ((lg_cmp (S8.AJ v3 ((0 : Int32).toNatClampNeg)) r6.toInt64) = 0) → False))))) ∧ (¬ (r9 = r3) → False)))))
set_option maxHeartbeats 4000000 in
set_option maxRecDepth 100000 in
theorem bL_law_b1429 {p : Program} {l : Launch} {e : Env} {s : State} {m : MethodId} {args : Array Value} {below : List Frame} {meth : Method} {c : Code} {G : Gw} {b9 : Nat} {Q : State → Prop} {x0 : (Nat → Int32)} {L9 : Nat} (C0 : Mx p s m c code 9 args yL_law.cls G) (Y : My meth (some .boolean)) (hl9 : l.stackTraces = false) (hX9 : va_X b9 L9 x0 s s.heap) (hbl9 : b9 < s.heap.size) (hbA9 : ¬ Ab G.b b9) (hend9 : ∀ (pc : Nat) (H : Heap) (locs : List Loc) (ls : Array Slot) (cells slots : Nat), decode code pc = .ok (.ireturn, 1) → va_S (Ab G.b) s.heap H locs → cells ≤ 603072 → slots ≤ 7198826 → W p l e room_1 s m args below meth c H locs cells slots Q (F0 m pc ls [.int 1])) {n9_28 : Nat} {k28 : Hp → Nat → Nat → Nat → Nat → Int32 → Prop} (hk28 : ∀ (S : Hp) (v1 : Nat) (v2 : Nat) (v3 : Nat) (v4 : Nat) (v5 : Int32) (H : Heap) (locs : List Loc) (ls : Array Slot) (cells slots : Nat), k28 S v1 v2 v3 v4 v5 → Ok G S H → va_S (Ab G.b) s.heap H locs → lv_has ls 9 [(0, .ref b9), (1, .ref v1), (2, .ref v2), (3, .ref v3), (4, .ref v4), (5, .int v5)] → cells + (n9_28 * 97 + 97) ≤ 603072 → slots + (n9_28 * 2225 + 2225) ≤ 7198826 → W p l e room_1 s m args below meth c H locs cells slots Q (F0 m 28 ls [])) : ∀ (S : Hp) (v1 : Nat) (v2 : Nat) (v3 : Nat) (v4 : Nat) (v5 : Int32) (H : Heap) (locs : List Loc) (ls : Array Slot) (cells slots : Nat), wL_law_b1429 x0 L9 k28 S v1 v2 v3 v4 v5 → Ok G S H → va_S (Ab G.b) s.heap H locs → lv_has ls 9 [(0, .ref b9), (1, .ref v1), (2, .ref v2), (3, .ref v3), (4, .ref v4), (5, .int v5)] → cells + (n9_28 * 97 + 104) ≤ 603072 → slots + (n9_28 * 2225 + 2358) ≤ 7198826 → W p l e room_1 s m args below meth c H locs cells slots Q (F0 m 1429 ls []) := by
  intro S v1 v2 v3 v4 v5 H locs ls cells slots h hO hS hl hcc hss
  unfold wL_law_b1429 at h
  refine lv_aload_n C0.1 C0.2.1 dL_law_1429 rfl (lv_at hl 1 rfl) ?_
  refine lv_aload_n C0.1 C0.2.1 dL_law_1430 rfl (lv_at hl 0 rfl) ?_
  refine lv_iload C0.1 C0.2.1 dL_law_1431 (lv_at hl 5 rfl) ?_
  refine lv_iconst (v := 1) C0.1 C0.2.1 dL_law_1433 (by decide) ?_
  refine lv_iadd C0.1 C0.2.1 dL_law_1434 ?_
  obtain ⟨e1, h⟩ := h
  refine va_sld C0.1 C0.2.1 hX9 hbl9 hbA9 hS e1 dL_law_1435 ?_
  refine lv_aload_n C0.1 C0.2.1 dL_law_1436 rfl (lv_at hl 3 rfl) ?_
  refine c_SW C0 hO hS (mL_cam hl9 h) tb_972 tb_973 tb_73 tb_974 hd_L_cam rfl ⟨⟨by decide, by decide⟩, by show _ + 7 ≤ 603072; omega, by show _ + 133 ≤ 7198826; omega⟩ hl.1 rfl (Nat.le_of_ble_eq_true rfl) dL_law_1437 (kI (fun r3 S2 H locs h hO hS => ?_))
  change W _ _ _ _ _ _ _ _ _ _ _ _ (_ + 7) (_ + 133) _ _
  refine lv_istore C0.1 C0.2.1 dL_law_1440 hl (by decide) rfl (fun ls hl => ?_)
  refine lv_aload_n C0.1 C0.2.1 dL_law_1442 rfl (lv_at hl 3 rfl) ?_
  refine lv_aload_n C0.1 C0.2.1 dL_law_1443 rfl (lv_at hl 1 rfl) ?_
  refine lv_iload C0.1 C0.2.1 dL_law_1444 (lv_at hl 6 rfl) ?_
  refine lv_iconst (v := 1) C0.1 C0.2.1 dL_law_1446 (by decide) ?_
  refine lv_iadd C0.1 C0.2.1 dL_law_1447 ?_
  obtain ⟨e4, h⟩ := h
  refine va_sld C0.1 C0.2.1 hX9 hbl9 hbA9 hS e4 dL_law_1448 ?_
  obtain ⟨i7, h⟩ := h
  refine c_V C0 hO hS (mX8_cam h) i7 (by decide) rfl rfl tb_1631 tb_1632 tb_1633 tb_81 tb_1634 hd_X8_cam rfl ⟨⟨by decide, by decide⟩, by show _ + 0 ≤ 603072; omega, by show _ + 0 ≤ 7198826; omega⟩ hl.1 rfl (Nat.le_of_ble_eq_true rfl) dL_law_1449 (kI (fun r6 S5 H locs h hO hS => ?_))
  change W _ _ _ _ _ _ _ _ _ _ _ _ (_ + 0) (_ + 0) _ _
  refine lv_istore C0.1 C0.2.1 dL_law_1452 hl (by decide) rfl (fun ls hl => ?_)
  refine lv_aload_n C0.1 C0.2.1 dL_law_1454 rfl (lv_at hl 4 rfl) ?_
  obtain ⟨i10, h⟩ := h
  refine c_V C0 hO hS (mX8_thrown h) i10 (by decide) rfl rfl tb_1443 tb_1444 tb_1445 tb_81 tb_1446 hd_X8_thrown rfl ⟨⟨by decide, by decide⟩, by show _ + 0 ≤ 603072; omega, by show _ + 0 ≤ 7198826; omega⟩ hl.1 rfl (Nat.le_of_ble_eq_true rfl) dL_law_1455 (kI (fun r9 S8 H locs h hO hS => ?_))
  change W _ _ _ _ _ _ _ _ _ _ _ _ (_ + 0) (_ + 0) _ _
  refine lv_iload C0.1 C0.2.1 dL_law_1458 (lv_at hl 1 rfl) ?_
  refine lv_icmp_eq (tgt := 1465) C0.1 C0.2.1 dL_law_1460 (by decide) (fun c11 => ?_) (fun c11 => ?_)
  · replace h := h.1 c11
    refine lv_iload C0.1 C0.2.1 dL_law_1465 (lv_at hl 1 rfl) ?_
    refine lv_if_ne (tgt := 1482) C0.1 C0.2.1 dL_law_1467 (by decide) (fun c12 => ?_) (fun c12 => ?_)
    · replace h := h.1 c12
      exact bL_law_b1482 C0 Y hl9 hX9 hbl9 hbA9 hend9 hk28 _ _ _ _ _ _ _ _ _ _ _ h hO hS (lv_sub hl [2, 3, 4, 5, 6, 7] rfl) (by clear h; omega) (by clear h; omega)
    · replace h := h.2 c12
      refine lv_aload_n C0.1 C0.2.1 dL_law_1470 rfl (lv_at hl 5 rfl) ?_
      refine lv_iconst (v := 0) C0.1 C0.2.1 dL_law_1471 (by decide) ?_
      obtain ⟨i13, h⟩ := h
      obtain ⟨e14, h⟩ := h
      refine r_lald C0 hO i13 e14 dL_law_1472 ?_
      refine lv_iload C0.1 C0.2.1 dL_law_1473 (lv_at hl 0 rfl) ?_
      refine lv_i2l C0.1 C0.2.1 dL_law_1475 rfl ?_
      refine W.lcmp C0.1 C0.2.1 dL_law_1476 ?_
      refine lv_if_eq (tgt := 1482) C0.1 C0.2.1 dL_law_1477 (by decide) (fun c15 => ?_) (fun c15 => ?_)
      · replace h := h.1 c15
        exact bL_law_b1482 C0 Y hl9 hX9 hbl9 hbA9 hend9 hk28 _ _ _ _ _ _ _ _ _ _ _ h hO hS (lv_sub hl [2, 3, 4, 5, 6, 7] rfl) (by clear h; omega) (by clear h; omega)
      · replace h := h.2 c15
        refine lv_iconst (v := 0) C0.1 C0.2.1 dL_law_1480 (by decide) ?_
        exact h.elim
  · replace h := h.2 c11
    refine lv_iconst (v := 0) C0.1 C0.2.1 dL_law_1463 (by decide) ?_
    exact h.elim
def wL_law_b1576 (x0 : (Nat → Int32)) (L9 : Nat) (k28 : Hp → Nat → Nat → Nat → Nat → Int32 → Prop) (S : Hp) (v1 : Nat) (v2 : Nat) (v3 : Nat) (v4 : Nat) (v5 : Int32) : Prop := wL_law_b3146 x0 L9 k28 S v1 v2 v3 v4 v5
set_option maxHeartbeats 4000000 in
set_option maxRecDepth 100000 in
theorem bL_law_b1576 {p : Program} {l : Launch} {e : Env} {s : State} {m : MethodId} {args : Array Value} {below : List Frame} {meth : Method} {c : Code} {G : Gw} {b9 : Nat} {Q : State → Prop} {x0 : (Nat → Int32)} {L9 : Nat} (C0 : Mx p s m c code 9 args yL_law.cls G) (Y : My meth (some .boolean)) (hl9 : l.stackTraces = false) (hX9 : va_X b9 L9 x0 s s.heap) (hbl9 : b9 < s.heap.size) (hbA9 : ¬ Ab G.b b9) (hend9 : ∀ (pc : Nat) (H : Heap) (locs : List Loc) (ls : Array Slot) (cells slots : Nat), decode code pc = .ok (.ireturn, 1) → va_S (Ab G.b) s.heap H locs → cells ≤ 603072 → slots ≤ 7198826 → W p l e room_1 s m args below meth c H locs cells slots Q (F0 m pc ls [.int 1])) {n9_28 : Nat} {k28 : Hp → Nat → Nat → Nat → Nat → Int32 → Prop} (hk28 : ∀ (S : Hp) (v1 : Nat) (v2 : Nat) (v3 : Nat) (v4 : Nat) (v5 : Int32) (H : Heap) (locs : List Loc) (ls : Array Slot) (cells slots : Nat), k28 S v1 v2 v3 v4 v5 → Ok G S H → va_S (Ab G.b) s.heap H locs → lv_has ls 9 [(0, .ref b9), (1, .ref v1), (2, .ref v2), (3, .ref v3), (4, .ref v4), (5, .int v5)] → cells + (n9_28 * 97 + 97) ≤ 603072 → slots + (n9_28 * 2225 + 2225) ≤ 7198826 → W p l e room_1 s m args below meth c H locs cells slots Q (F0 m 28 ls [])) : ∀ (S : Hp) (v1 : Nat) (v2 : Nat) (v3 : Nat) (v4 : Nat) (v5 : Int32) (H : Heap) (locs : List Loc) (ls : Array Slot) (cells slots : Nat), wL_law_b1576 x0 L9 k28 S v1 v2 v3 v4 v5 → Ok G S H → va_S (Ab G.b) s.heap H locs → lv_has ls 9 [(0, .ref b9), (1, .ref v1), (2, .ref v2), (3, .ref v3), (4, .ref v4), (5, .int v5)] → cells + (n9_28 * 97 + 97) ≤ 603072 → slots + (n9_28 * 2225 + 2225) ≤ 7198826 → W p l e room_1 s m args below meth c H locs cells slots Q (F0 m 1576 ls []) := by
  intro S v1 v2 v3 v4 v5 H locs ls cells slots h hO hS hl hcc hss
  unfold wL_law_b1576 at h
  refine lv_goto (tgt := 3146) C0.1 C0.2.1 dL_law_1576 (by decide) ?_
  exact bL_law_b3146 C0 Y hl9 hX9 hbl9 hbA9 hend9 hk28 _ _ _ _ _ _ _ _ _ _ _ h hO hS (lv_sub hl [0, 1, 2, 3, 4, 5] rfl) (by clear h; omega) (by clear h; omega)
def wL_law_b1485 (x0 : (Nat → Int32)) (L9 : Nat) (k28 : Hp → Nat → Nat → Nat → Nat → Int32 → Prop) (S : Hp) (v1 : Nat) (v2 : Nat) (v3 : Nat) (v4 : Nat) (v5 : Int32) : Prop := vp_in (v5 + 1) L9 ∧ vp_in (v5 + 2) L9 ∧ vp_in (v5 + 3) L9 ∧ vp_in (v5 + 4) L9 ∧ wL_segment S v1 (x0 (v5 + 1).toNatClampNeg) (x0 (v5 + 2).toNatClampNeg) (x0 (v5 + 3).toNatClampNeg) (((x0 (v5 + 4).toNatClampNeg).toUInt32 % 65536).toInt32) v3 (fun S5 r6 => vp_in (v5 + 1) L9 ∧ vp_in (v5 + 2) L9 ∧ vp_in (v5 + 3) L9 ∧ vp_in (v5 + 4) L9 ∧ isA S5 v2 8 ∧ wX8_segment S5 v2 (x0 (v5 + 1).toNatClampNeg) (x0 (v5 + 2).toNatClampNeg) (x0 (v5 + 3).toNatClampNeg) (((x0 (v5 + 4).toNatClampNeg).toUInt32 % 65536).toInt32) (fun S11 r12 => isA S11 v2 8 ∧ wX8_thrown S11 v2 (fun S14 r15 => ((r15 = r6 → ((¬ r6 = 0 → wL_law_b1576 x0 L9 k28 S14 v1 v2 v3 v4 v5) ∧ (r6 = 0 → isA S14 v3 22 ∧ vp_in 0 (S14.N v3) ∧ (((lg_cmp (S14.AJ v3 ((0 : Int32).toNatClampNeg)) r12.toInt64) = 0 → wL_law_b1576 x0 L9 k28 S14 v1 v2 v3 v4 v5) ∧ (¬ ((lg_cmp (S14.AJ v3 ((0 : Int32).toNatClampNeg)) r12.toInt64) = 0) → False))))) ∧ (¬ (r15 = r6) → False)))))
set_option maxHeartbeats 4000000 in
set_option maxRecDepth 100000 in
theorem bL_law_b1485 {p : Program} {l : Launch} {e : Env} {s : State} {m : MethodId} {args : Array Value} {below : List Frame} {meth : Method} {c : Code} {G : Gw} {b9 : Nat} {Q : State → Prop} {x0 : (Nat → Int32)} {L9 : Nat} (C0 : Mx p s m c code 9 args yL_law.cls G) (Y : My meth (some .boolean)) (hl9 : l.stackTraces = false) (hX9 : va_X b9 L9 x0 s s.heap) (hbl9 : b9 < s.heap.size) (hbA9 : ¬ Ab G.b b9) (hend9 : ∀ (pc : Nat) (H : Heap) (locs : List Loc) (ls : Array Slot) (cells slots : Nat), decode code pc = .ok (.ireturn, 1) → va_S (Ab G.b) s.heap H locs → cells ≤ 603072 → slots ≤ 7198826 → W p l e room_1 s m args below meth c H locs cells slots Q (F0 m pc ls [.int 1])) {n9_28 : Nat} {k28 : Hp → Nat → Nat → Nat → Nat → Int32 → Prop} (hk28 : ∀ (S : Hp) (v1 : Nat) (v2 : Nat) (v3 : Nat) (v4 : Nat) (v5 : Int32) (H : Heap) (locs : List Loc) (ls : Array Slot) (cells slots : Nat), k28 S v1 v2 v3 v4 v5 → Ok G S H → va_S (Ab G.b) s.heap H locs → lv_has ls 9 [(0, .ref b9), (1, .ref v1), (2, .ref v2), (3, .ref v3), (4, .ref v4), (5, .int v5)] → cells + (n9_28 * 97 + 97) ≤ 603072 → slots + (n9_28 * 2225 + 2225) ≤ 7198826 → W p l e room_1 s m args below meth c H locs cells slots Q (F0 m 28 ls [])) : ∀ (S : Hp) (v1 : Nat) (v2 : Nat) (v3 : Nat) (v4 : Nat) (v5 : Int32) (H : Heap) (locs : List Loc) (ls : Array Slot) (cells slots : Nat), wL_law_b1485 x0 L9 k28 S v1 v2 v3 v4 v5 → Ok G S H → va_S (Ab G.b) s.heap H locs → lv_has ls 9 [(0, .ref b9), (1, .ref v1), (2, .ref v2), (3, .ref v3), (4, .ref v4), (5, .int v5)] → cells + (n9_28 * 97 + 102) ≤ 603072 → slots + (n9_28 * 2225 + 2255) ≤ 7198826 → W p l e room_1 s m args below meth c H locs cells slots Q (F0 m 1485 ls []) := by
  intro S v1 v2 v3 v4 v5 H locs ls cells slots h hO hS hl hcc hss
  unfold wL_law_b1485 at h
  refine lv_aload_n C0.1 C0.2.1 dL_law_1485 rfl (lv_at hl 1 rfl) ?_
  refine lv_aload_n C0.1 C0.2.1 dL_law_1486 rfl (lv_at hl 0 rfl) ?_
  refine lv_iload C0.1 C0.2.1 dL_law_1487 (lv_at hl 5 rfl) ?_
  refine lv_iconst (v := 1) C0.1 C0.2.1 dL_law_1489 (by decide) ?_
  refine lv_iadd C0.1 C0.2.1 dL_law_1490 ?_
  obtain ⟨e1, h⟩ := h
  refine va_sld C0.1 C0.2.1 hX9 hbl9 hbA9 hS e1 dL_law_1491 ?_
  refine lv_aload_n C0.1 C0.2.1 dL_law_1492 rfl (lv_at hl 0 rfl) ?_
  refine lv_iload C0.1 C0.2.1 dL_law_1493 (lv_at hl 5 rfl) ?_
  refine lv_iconst (v := 2) C0.1 C0.2.1 dL_law_1495 (by decide) ?_
  refine lv_iadd C0.1 C0.2.1 dL_law_1496 ?_
  obtain ⟨e2, h⟩ := h
  refine va_sld C0.1 C0.2.1 hX9 hbl9 hbA9 hS e2 dL_law_1497 ?_
  refine lv_aload_n C0.1 C0.2.1 dL_law_1498 rfl (lv_at hl 0 rfl) ?_
  refine lv_iload C0.1 C0.2.1 dL_law_1499 (lv_at hl 5 rfl) ?_
  refine lv_iconst (v := 3) C0.1 C0.2.1 dL_law_1501 (by decide) ?_
  refine lv_iadd C0.1 C0.2.1 dL_law_1502 ?_
  obtain ⟨e3, h⟩ := h
  refine va_sld C0.1 C0.2.1 hX9 hbl9 hbA9 hS e3 dL_law_1503 ?_
  refine lv_aload_n C0.1 C0.2.1 dL_law_1504 rfl (lv_at hl 0 rfl) ?_
  refine lv_iload C0.1 C0.2.1 dL_law_1505 (lv_at hl 5 rfl) ?_
  refine lv_iconst (v := 4) C0.1 C0.2.1 dL_law_1507 (by decide) ?_
  refine lv_iadd C0.1 C0.2.1 dL_law_1508 ?_
  obtain ⟨e4, h⟩ := h
  refine va_sld C0.1 C0.2.1 hX9 hbl9 hbA9 hS e4 dL_law_1509 ?_
  refine lv_i2c C0.1 C0.2.1 dL_law_1510 rfl ?_
  refine lv_aload_n C0.1 C0.2.1 dL_law_1511 rfl (lv_at hl 3 rfl) ?_
  refine c_SW C0 hO hS (mL_segment hl9 h) tb_1012 tb_1013 tb_73 tb_1014 hd_L_segment rfl ⟨⟨by decide, by decide⟩, by show _ + 5 ≤ 603072; omega, by show _ + 30 ≤ 7198826; omega⟩ hl.1 rfl (Nat.le_of_ble_eq_true rfl) dL_law_1512 (kI (fun r6 S5 H locs h hO hS => ?_))
  change W _ _ _ _ _ _ _ _ _ _ _ _ (_ + 5) (_ + 30) _ _
  refine lv_istore C0.1 C0.2.1 dL_law_1515 hl (by decide) rfl (fun ls hl => ?_)
  refine lv_aload_n C0.1 C0.2.1 dL_law_1517 rfl (lv_at hl 3 rfl) ?_
  refine lv_aload_n C0.1 C0.2.1 dL_law_1518 rfl (lv_at hl 1 rfl) ?_
  refine lv_iload C0.1 C0.2.1 dL_law_1519 (lv_at hl 6 rfl) ?_
  refine lv_iconst (v := 1) C0.1 C0.2.1 dL_law_1521 (by decide) ?_
  refine lv_iadd C0.1 C0.2.1 dL_law_1522 ?_
  obtain ⟨e7, h⟩ := h
  refine va_sld C0.1 C0.2.1 hX9 hbl9 hbA9 hS e7 dL_law_1523 ?_
  refine lv_aload_n C0.1 C0.2.1 dL_law_1524 rfl (lv_at hl 1 rfl) ?_
  refine lv_iload C0.1 C0.2.1 dL_law_1525 (lv_at hl 6 rfl) ?_
  refine lv_iconst (v := 2) C0.1 C0.2.1 dL_law_1527 (by decide) ?_
  refine lv_iadd C0.1 C0.2.1 dL_law_1528 ?_
  obtain ⟨e8, h⟩ := h
  refine va_sld C0.1 C0.2.1 hX9 hbl9 hbA9 hS e8 dL_law_1529 ?_
  refine lv_aload_n C0.1 C0.2.1 dL_law_1530 rfl (lv_at hl 1 rfl) ?_
  refine lv_iload C0.1 C0.2.1 dL_law_1531 (lv_at hl 6 rfl) ?_
  refine lv_iconst (v := 3) C0.1 C0.2.1 dL_law_1533 (by decide) ?_
  refine lv_iadd C0.1 C0.2.1 dL_law_1534 ?_
  obtain ⟨e9, h⟩ := h
  refine va_sld C0.1 C0.2.1 hX9 hbl9 hbA9 hS e9 dL_law_1535 ?_
  refine lv_aload_n C0.1 C0.2.1 dL_law_1536 rfl (lv_at hl 1 rfl) ?_
  refine lv_iload C0.1 C0.2.1 dL_law_1537 (lv_at hl 6 rfl) ?_
  refine lv_iconst (v := 4) C0.1 C0.2.1 dL_law_1539 (by decide) ?_
  refine lv_iadd C0.1 C0.2.1 dL_law_1540 ?_
  obtain ⟨e10, h⟩ := h
  refine va_sld C0.1 C0.2.1 hX9 hbl9 hbA9 hS e10 dL_law_1541 ?_
  refine lv_i2c C0.1 C0.2.1 dL_law_1542 rfl ?_
  obtain ⟨i13, h⟩ := h
  refine c_V C0 hO hS (mX8_segment h) i13 (by decide) rfl rfl tb_1635 tb_1636 tb_1637 tb_81 tb_1638 hd_X8_segment rfl ⟨⟨by decide, by decide⟩, by show _ + 0 ≤ 603072; omega, by show _ + 0 ≤ 7198826; omega⟩ hl.1 rfl (Nat.le_of_ble_eq_true rfl) dL_law_1543 (kI (fun r12 S11 H locs h hO hS => ?_))
  change W _ _ _ _ _ _ _ _ _ _ _ _ (_ + 0) (_ + 0) _ _
  refine lv_istore C0.1 C0.2.1 dL_law_1546 hl (by decide) rfl (fun ls hl => ?_)
  refine lv_aload_n C0.1 C0.2.1 dL_law_1548 rfl (lv_at hl 4 rfl) ?_
  obtain ⟨i16, h⟩ := h
  refine c_V C0 hO hS (mX8_thrown h) i16 (by decide) rfl rfl tb_1443 tb_1444 tb_1445 tb_81 tb_1446 hd_X8_thrown rfl ⟨⟨by decide, by decide⟩, by show _ + 0 ≤ 603072; omega, by show _ + 0 ≤ 7198826; omega⟩ hl.1 rfl (Nat.le_of_ble_eq_true rfl) dL_law_1549 (kI (fun r15 S14 H locs h hO hS => ?_))
  change W _ _ _ _ _ _ _ _ _ _ _ _ (_ + 0) (_ + 0) _ _
  refine lv_iload C0.1 C0.2.1 dL_law_1552 (lv_at hl 1 rfl) ?_
  refine lv_icmp_eq (tgt := 1559) C0.1 C0.2.1 dL_law_1554 (by decide) (fun c17 => ?_) (fun c17 => ?_)
  · replace h := h.1 c17
    refine lv_iload C0.1 C0.2.1 dL_law_1559 (lv_at hl 1 rfl) ?_
    refine lv_if_ne (tgt := 1576) C0.1 C0.2.1 dL_law_1561 (by decide) (fun c18 => ?_) (fun c18 => ?_)
    · replace h := h.1 c18
      exact bL_law_b1576 C0 Y hl9 hX9 hbl9 hbA9 hend9 hk28 _ _ _ _ _ _ _ _ _ _ _ h hO hS (lv_sub hl [2, 3, 4, 5, 6, 7] rfl) (by clear h; omega) (by clear h; omega)
    · replace h := h.2 c18
      refine lv_aload_n C0.1 C0.2.1 dL_law_1564 rfl (lv_at hl 5 rfl) ?_
      refine lv_iconst (v := 0) C0.1 C0.2.1 dL_law_1565 (by decide) ?_
      obtain ⟨i19, h⟩ := h
      obtain ⟨e20, h⟩ := h
      refine r_lald C0 hO i19 e20 dL_law_1566 ?_
      refine lv_iload C0.1 C0.2.1 dL_law_1567 (lv_at hl 0 rfl) ?_
      refine lv_i2l C0.1 C0.2.1 dL_law_1569 rfl ?_
      refine W.lcmp C0.1 C0.2.1 dL_law_1570 ?_
      refine lv_if_eq (tgt := 1576) C0.1 C0.2.1 dL_law_1571 (by decide) (fun c21 => ?_) (fun c21 => ?_)
      · replace h := h.1 c21
        exact bL_law_b1576 C0 Y hl9 hX9 hbl9 hbA9 hend9 hk28 _ _ _ _ _ _ _ _ _ _ _ h hO hS (lv_sub hl [2, 3, 4, 5, 6, 7] rfl) (by clear h; omega) (by clear h; omega)
      · replace h := h.2 c21
        refine lv_iconst (v := 0) C0.1 C0.2.1 dL_law_1574 (by decide) ?_
        exact h.elim
  · replace h := h.2 c17
    refine lv_iconst (v := 0) C0.1 C0.2.1 dL_law_1557 (by decide) ?_
    exact h.elim
def wL_law_b1632 (x0 : (Nat → Int32)) (L9 : Nat) (k28 : Hp → Nat → Nat → Nat → Nat → Int32 → Prop) (S : Hp) (v1 : Nat) (v2 : Nat) (v3 : Nat) (v4 : Nat) (v5 : Int32) : Prop := wL_law_b3146 x0 L9 k28 S v1 v2 v3 v4 v5
set_option maxHeartbeats 4000000 in
set_option maxRecDepth 100000 in
theorem bL_law_b1632 {p : Program} {l : Launch} {e : Env} {s : State} {m : MethodId} {args : Array Value} {below : List Frame} {meth : Method} {c : Code} {G : Gw} {b9 : Nat} {Q : State → Prop} {x0 : (Nat → Int32)} {L9 : Nat} (C0 : Mx p s m c code 9 args yL_law.cls G) (Y : My meth (some .boolean)) (hl9 : l.stackTraces = false) (hX9 : va_X b9 L9 x0 s s.heap) (hbl9 : b9 < s.heap.size) (hbA9 : ¬ Ab G.b b9) (hend9 : ∀ (pc : Nat) (H : Heap) (locs : List Loc) (ls : Array Slot) (cells slots : Nat), decode code pc = .ok (.ireturn, 1) → va_S (Ab G.b) s.heap H locs → cells ≤ 603072 → slots ≤ 7198826 → W p l e room_1 s m args below meth c H locs cells slots Q (F0 m pc ls [.int 1])) {n9_28 : Nat} {k28 : Hp → Nat → Nat → Nat → Nat → Int32 → Prop} (hk28 : ∀ (S : Hp) (v1 : Nat) (v2 : Nat) (v3 : Nat) (v4 : Nat) (v5 : Int32) (H : Heap) (locs : List Loc) (ls : Array Slot) (cells slots : Nat), k28 S v1 v2 v3 v4 v5 → Ok G S H → va_S (Ab G.b) s.heap H locs → lv_has ls 9 [(0, .ref b9), (1, .ref v1), (2, .ref v2), (3, .ref v3), (4, .ref v4), (5, .int v5)] → cells + (n9_28 * 97 + 97) ≤ 603072 → slots + (n9_28 * 2225 + 2225) ≤ 7198826 → W p l e room_1 s m args below meth c H locs cells slots Q (F0 m 28 ls [])) : ∀ (S : Hp) (v1 : Nat) (v2 : Nat) (v3 : Nat) (v4 : Nat) (v5 : Int32) (H : Heap) (locs : List Loc) (ls : Array Slot) (cells slots : Nat), wL_law_b1632 x0 L9 k28 S v1 v2 v3 v4 v5 → Ok G S H → va_S (Ab G.b) s.heap H locs → lv_has ls 9 [(0, .ref b9), (1, .ref v1), (2, .ref v2), (3, .ref v3), (4, .ref v4), (5, .int v5)] → cells + (n9_28 * 97 + 97) ≤ 603072 → slots + (n9_28 * 2225 + 2225) ≤ 7198826 → W p l e room_1 s m args below meth c H locs cells slots Q (F0 m 1632 ls []) := by
  intro S v1 v2 v3 v4 v5 H locs ls cells slots h hO hS hl hcc hss
  unfold wL_law_b1632 at h
  refine lv_goto (tgt := 3146) C0.1 C0.2.1 dL_law_1632 (by decide) ?_
  exact bL_law_b3146 C0 Y hl9 hX9 hbl9 hbA9 hend9 hk28 _ _ _ _ _ _ _ _ _ _ _ h hO hS (lv_sub hl [0, 1, 2, 3, 4, 5] rfl) (by clear h; omega) (by clear h; omega)
def wL_law_b1579 (x0 : (Nat → Int32)) (L9 : Nat) (k28 : Hp → Nat → Nat → Nat → Nat → Int32 → Prop) (S : Hp) (v1 : Nat) (v2 : Nat) (v3 : Nat) (v4 : Nat) (v5 : Int32) : Prop := vp_in (v5 + 1) L9 ∧ wL_clear S v1 (x0 (v5 + 1).toNatClampNeg) v3 (fun S2 r3 => vp_in (v5 + 1) L9 ∧ isA S2 v2 8 ∧ wX8_clear S2 v2 (x0 (v5 + 1).toNatClampNeg) (fun S5 r6 => isA S5 v2 8 ∧ wX8_thrown S5 v2 (fun S8 r9 => ((r9 = r3 → ((¬ r3 = 0 → wL_law_b1632 x0 L9 k28 S8 v1 v2 v3 v4 v5) ∧ (r3 = 0 → isA S8 v3 22 ∧ vp_in 0 (S8.N v3) ∧ (((lg_cmp (S8.AJ v3 ((0 : Int32).toNatClampNeg)) r6.toInt64) = 0 → wL_law_b1632 x0 L9 k28 S8 v1 v2 v3 v4 v5) ∧ (¬ ((lg_cmp (S8.AJ v3 ((0 : Int32).toNatClampNeg)) r6.toInt64) = 0) → False))))) ∧ (¬ (r9 = r3) → False)))))
set_option maxHeartbeats 4000000 in
set_option maxRecDepth 100000 in
theorem bL_law_b1579 {p : Program} {l : Launch} {e : Env} {s : State} {m : MethodId} {args : Array Value} {below : List Frame} {meth : Method} {c : Code} {G : Gw} {b9 : Nat} {Q : State → Prop} {x0 : (Nat → Int32)} {L9 : Nat} (C0 : Mx p s m c code 9 args yL_law.cls G) (Y : My meth (some .boolean)) (hl9 : l.stackTraces = false) (hX9 : va_X b9 L9 x0 s s.heap) (hbl9 : b9 < s.heap.size) (hbA9 : ¬ Ab G.b b9) (hend9 : ∀ (pc : Nat) (H : Heap) (locs : List Loc) (ls : Array Slot) (cells slots : Nat), decode code pc = .ok (.ireturn, 1) → va_S (Ab G.b) s.heap H locs → cells ≤ 603072 → slots ≤ 7198826 → W p l e room_1 s m args below meth c H locs cells slots Q (F0 m pc ls [.int 1])) {n9_28 : Nat} {k28 : Hp → Nat → Nat → Nat → Nat → Int32 → Prop} (hk28 : ∀ (S : Hp) (v1 : Nat) (v2 : Nat) (v3 : Nat) (v4 : Nat) (v5 : Int32) (H : Heap) (locs : List Loc) (ls : Array Slot) (cells slots : Nat), k28 S v1 v2 v3 v4 v5 → Ok G S H → va_S (Ab G.b) s.heap H locs → lv_has ls 9 [(0, .ref b9), (1, .ref v1), (2, .ref v2), (3, .ref v3), (4, .ref v4), (5, .int v5)] → cells + (n9_28 * 97 + 97) ≤ 603072 → slots + (n9_28 * 2225 + 2225) ≤ 7198826 → W p l e room_1 s m args below meth c H locs cells slots Q (F0 m 28 ls [])) : ∀ (S : Hp) (v1 : Nat) (v2 : Nat) (v3 : Nat) (v4 : Nat) (v5 : Int32) (H : Heap) (locs : List Loc) (ls : Array Slot) (cells slots : Nat), wL_law_b1579 x0 L9 k28 S v1 v2 v3 v4 v5 → Ok G S H → va_S (Ab G.b) s.heap H locs → lv_has ls 9 [(0, .ref b9), (1, .ref v1), (2, .ref v2), (3, .ref v3), (4, .ref v4), (5, .int v5)] → cells + (n9_28 * 97 + 98) ≤ 603072 → slots + (n9_28 * 2225 + 2231) ≤ 7198826 → W p l e room_1 s m args below meth c H locs cells slots Q (F0 m 1579 ls []) := by
  intro S v1 v2 v3 v4 v5 H locs ls cells slots h hO hS hl hcc hss
  unfold wL_law_b1579 at h
  refine lv_aload_n C0.1 C0.2.1 dL_law_1579 rfl (lv_at hl 1 rfl) ?_
  refine lv_aload_n C0.1 C0.2.1 dL_law_1580 rfl (lv_at hl 0 rfl) ?_
  refine lv_iload C0.1 C0.2.1 dL_law_1581 (lv_at hl 5 rfl) ?_
  refine lv_iconst (v := 1) C0.1 C0.2.1 dL_law_1583 (by decide) ?_
  refine lv_iadd C0.1 C0.2.1 dL_law_1584 ?_
  obtain ⟨e1, h⟩ := h
  refine va_sld C0.1 C0.2.1 hX9 hbl9 hbA9 hS e1 dL_law_1585 ?_
  refine lv_aload_n C0.1 C0.2.1 dL_law_1586 rfl (lv_at hl 3 rfl) ?_
  refine c_SW C0 hO hS (mL_clear hl9 h) tb_1033 tb_1034 tb_73 tb_1035 hd_L_clear rfl ⟨⟨by decide, by decide⟩, by show _ + 1 ≤ 603072; omega, by show _ + 6 ≤ 7198826; omega⟩ hl.1 rfl (Nat.le_of_ble_eq_true rfl) dL_law_1587 (kI (fun r3 S2 H locs h hO hS => ?_))
  change W _ _ _ _ _ _ _ _ _ _ _ _ (_ + 1) (_ + 6) _ _
  refine lv_istore C0.1 C0.2.1 dL_law_1590 hl (by decide) rfl (fun ls hl => ?_)
  refine lv_aload_n C0.1 C0.2.1 dL_law_1592 rfl (lv_at hl 3 rfl) ?_
  refine lv_aload_n C0.1 C0.2.1 dL_law_1593 rfl (lv_at hl 1 rfl) ?_
  refine lv_iload C0.1 C0.2.1 dL_law_1594 (lv_at hl 6 rfl) ?_
  refine lv_iconst (v := 1) C0.1 C0.2.1 dL_law_1596 (by decide) ?_
  refine lv_iadd C0.1 C0.2.1 dL_law_1597 ?_
  obtain ⟨e4, h⟩ := h
  refine va_sld C0.1 C0.2.1 hX9 hbl9 hbA9 hS e4 dL_law_1598 ?_
  obtain ⟨i7, h⟩ := h
  refine c_V C0 hO hS (mX8_clear h) i7 (by decide) rfl rfl tb_1654 tb_1655 tb_1656 tb_81 tb_1657 hd_X8_clear rfl ⟨⟨by decide, by decide⟩, by show _ + 0 ≤ 603072; omega, by show _ + 0 ≤ 7198826; omega⟩ hl.1 rfl (Nat.le_of_ble_eq_true rfl) dL_law_1599 (kI (fun r6 S5 H locs h hO hS => ?_))
  change W _ _ _ _ _ _ _ _ _ _ _ _ (_ + 0) (_ + 0) _ _
  refine lv_istore C0.1 C0.2.1 dL_law_1602 hl (by decide) rfl (fun ls hl => ?_)
  refine lv_aload_n C0.1 C0.2.1 dL_law_1604 rfl (lv_at hl 4 rfl) ?_
  obtain ⟨i10, h⟩ := h
  refine c_V C0 hO hS (mX8_thrown h) i10 (by decide) rfl rfl tb_1443 tb_1444 tb_1445 tb_81 tb_1446 hd_X8_thrown rfl ⟨⟨by decide, by decide⟩, by show _ + 0 ≤ 603072; omega, by show _ + 0 ≤ 7198826; omega⟩ hl.1 rfl (Nat.le_of_ble_eq_true rfl) dL_law_1605 (kI (fun r9 S8 H locs h hO hS => ?_))
  change W _ _ _ _ _ _ _ _ _ _ _ _ (_ + 0) (_ + 0) _ _
  refine lv_iload C0.1 C0.2.1 dL_law_1608 (lv_at hl 1 rfl) ?_
  refine lv_icmp_eq (tgt := 1615) C0.1 C0.2.1 dL_law_1610 (by decide) (fun c11 => ?_) (fun c11 => ?_)
  · replace h := h.1 c11
    refine lv_iload C0.1 C0.2.1 dL_law_1615 (lv_at hl 1 rfl) ?_
    refine lv_if_ne (tgt := 1632) C0.1 C0.2.1 dL_law_1617 (by decide) (fun c12 => ?_) (fun c12 => ?_)
    · replace h := h.1 c12
      exact bL_law_b1632 C0 Y hl9 hX9 hbl9 hbA9 hend9 hk28 _ _ _ _ _ _ _ _ _ _ _ h hO hS (lv_sub hl [2, 3, 4, 5, 6, 7] rfl) (by clear h; omega) (by clear h; omega)
    · replace h := h.2 c12
      refine lv_aload_n C0.1 C0.2.1 dL_law_1620 rfl (lv_at hl 5 rfl) ?_
      refine lv_iconst (v := 0) C0.1 C0.2.1 dL_law_1621 (by decide) ?_
      obtain ⟨i13, h⟩ := h
      obtain ⟨e14, h⟩ := h
      refine r_lald C0 hO i13 e14 dL_law_1622 ?_
      refine lv_iload C0.1 C0.2.1 dL_law_1623 (lv_at hl 0 rfl) ?_
      refine lv_i2l C0.1 C0.2.1 dL_law_1625 rfl ?_
      refine W.lcmp C0.1 C0.2.1 dL_law_1626 ?_
      refine lv_if_eq (tgt := 1632) C0.1 C0.2.1 dL_law_1627 (by decide) (fun c15 => ?_) (fun c15 => ?_)
      · replace h := h.1 c15
        exact bL_law_b1632 C0 Y hl9 hX9 hbl9 hbA9 hend9 hk28 _ _ _ _ _ _ _ _ _ _ _ h hO hS (lv_sub hl [2, 3, 4, 5, 6, 7] rfl) (by clear h; omega) (by clear h; omega)
      · replace h := h.2 c15
        refine lv_iconst (v := 0) C0.1 C0.2.1 dL_law_1630 (by decide) ?_
        exact h.elim
  · replace h := h.2 c11
    refine lv_iconst (v := 0) C0.1 C0.2.1 dL_law_1613 (by decide) ?_
    exact h.elim
def wL_law_b1687 (x0 : (Nat → Int32)) (L9 : Nat) (k28 : Hp → Nat → Nat → Nat → Nat → Int32 → Prop) (S : Hp) (v1 : Nat) (v2 : Nat) (v3 : Nat) (v4 : Nat) (v5 : Int32) : Prop := wL_law_b3146 x0 L9 k28 S v1 v2 v3 v4 v5
set_option maxHeartbeats 4000000 in
set_option maxRecDepth 100000 in
theorem bL_law_b1687 {p : Program} {l : Launch} {e : Env} {s : State} {m : MethodId} {args : Array Value} {below : List Frame} {meth : Method} {c : Code} {G : Gw} {b9 : Nat} {Q : State → Prop} {x0 : (Nat → Int32)} {L9 : Nat} (C0 : Mx p s m c code 9 args yL_law.cls G) (Y : My meth (some .boolean)) (hl9 : l.stackTraces = false) (hX9 : va_X b9 L9 x0 s s.heap) (hbl9 : b9 < s.heap.size) (hbA9 : ¬ Ab G.b b9) (hend9 : ∀ (pc : Nat) (H : Heap) (locs : List Loc) (ls : Array Slot) (cells slots : Nat), decode code pc = .ok (.ireturn, 1) → va_S (Ab G.b) s.heap H locs → cells ≤ 603072 → slots ≤ 7198826 → W p l e room_1 s m args below meth c H locs cells slots Q (F0 m pc ls [.int 1])) {n9_28 : Nat} {k28 : Hp → Nat → Nat → Nat → Nat → Int32 → Prop} (hk28 : ∀ (S : Hp) (v1 : Nat) (v2 : Nat) (v3 : Nat) (v4 : Nat) (v5 : Int32) (H : Heap) (locs : List Loc) (ls : Array Slot) (cells slots : Nat), k28 S v1 v2 v3 v4 v5 → Ok G S H → va_S (Ab G.b) s.heap H locs → lv_has ls 9 [(0, .ref b9), (1, .ref v1), (2, .ref v2), (3, .ref v3), (4, .ref v4), (5, .int v5)] → cells + (n9_28 * 97 + 97) ≤ 603072 → slots + (n9_28 * 2225 + 2225) ≤ 7198826 → W p l e room_1 s m args below meth c H locs cells slots Q (F0 m 28 ls [])) : ∀ (S : Hp) (v1 : Nat) (v2 : Nat) (v3 : Nat) (v4 : Nat) (v5 : Int32) (H : Heap) (locs : List Loc) (ls : Array Slot) (cells slots : Nat), wL_law_b1687 x0 L9 k28 S v1 v2 v3 v4 v5 → Ok G S H → va_S (Ab G.b) s.heap H locs → lv_has ls 9 [(0, .ref b9), (1, .ref v1), (2, .ref v2), (3, .ref v3), (4, .ref v4), (5, .int v5)] → cells + (n9_28 * 97 + 97) ≤ 603072 → slots + (n9_28 * 2225 + 2225) ≤ 7198826 → W p l e room_1 s m args below meth c H locs cells slots Q (F0 m 1687 ls []) := by
  intro S v1 v2 v3 v4 v5 H locs ls cells slots h hO hS hl hcc hss
  unfold wL_law_b1687 at h
  refine lv_goto (tgt := 3146) C0.1 C0.2.1 dL_law_1687 (by decide) ?_
  exact bL_law_b3146 C0 Y hl9 hX9 hbl9 hbA9 hend9 hk28 _ _ _ _ _ _ _ _ _ _ _ h hO hS (lv_sub hl [0, 1, 2, 3, 4, 5] rfl) (by clear h; omega) (by clear h; omega)
def wL_law_b1635 (x0 : (Nat → Int32)) (L9 : Nat) (k28 : Hp → Nat → Nat → Nat → Nat → Int32 → Prop) (S : Hp) (v1 : Nat) (v2 : Nat) (v3 : Nat) (v4 : Nat) (v5 : Int32) : Prop := vp_in (v5 + 1) L9 ∧ wL_heightOver S v1 (x0 (v5 + 1).toNatClampNeg) v3 (fun S2 r3 => vp_in (v5 + 1) L9 ∧ isA S2 v2 8 ∧ wX8_heightOver S2 v2 (x0 (v5 + 1).toNatClampNeg) (fun S5 r6 => isA S5 v2 8 ∧ wX8_thrown S5 v2 (fun S8 r9 => ((r9 = r3 → ((¬ r3 = 0 → wL_law_b1687 x0 L9 k28 S8 v1 v2 v3 v4 v5) ∧ (r3 = 0 → isA S8 v3 22 ∧ vp_in 0 (S8.N v3) ∧ (((lg_cmp (S8.AJ v3 ((0 : Int32).toNatClampNeg)) r6) = 0 → wL_law_b1687 x0 L9 k28 S8 v1 v2 v3 v4 v5) ∧ (¬ ((lg_cmp (S8.AJ v3 ((0 : Int32).toNatClampNeg)) r6) = 0) → False))))) ∧ (¬ (r9 = r3) → False)))))
set_option maxHeartbeats 4000000 in
set_option maxRecDepth 100000 in
theorem bL_law_b1635 {p : Program} {l : Launch} {e : Env} {s : State} {m : MethodId} {args : Array Value} {below : List Frame} {meth : Method} {c : Code} {G : Gw} {b9 : Nat} {Q : State → Prop} {x0 : (Nat → Int32)} {L9 : Nat} (C0 : Mx p s m c code 9 args yL_law.cls G) (Y : My meth (some .boolean)) (hl9 : l.stackTraces = false) (hX9 : va_X b9 L9 x0 s s.heap) (hbl9 : b9 < s.heap.size) (hbA9 : ¬ Ab G.b b9) (hend9 : ∀ (pc : Nat) (H : Heap) (locs : List Loc) (ls : Array Slot) (cells slots : Nat), decode code pc = .ok (.ireturn, 1) → va_S (Ab G.b) s.heap H locs → cells ≤ 603072 → slots ≤ 7198826 → W p l e room_1 s m args below meth c H locs cells slots Q (F0 m pc ls [.int 1])) {n9_28 : Nat} {k28 : Hp → Nat → Nat → Nat → Nat → Int32 → Prop} (hk28 : ∀ (S : Hp) (v1 : Nat) (v2 : Nat) (v3 : Nat) (v4 : Nat) (v5 : Int32) (H : Heap) (locs : List Loc) (ls : Array Slot) (cells slots : Nat), k28 S v1 v2 v3 v4 v5 → Ok G S H → va_S (Ab G.b) s.heap H locs → lv_has ls 9 [(0, .ref b9), (1, .ref v1), (2, .ref v2), (3, .ref v3), (4, .ref v4), (5, .int v5)] → cells + (n9_28 * 97 + 97) ≤ 603072 → slots + (n9_28 * 2225 + 2225) ≤ 7198826 → W p l e room_1 s m args below meth c H locs cells slots Q (F0 m 28 ls [])) : ∀ (S : Hp) (v1 : Nat) (v2 : Nat) (v3 : Nat) (v4 : Nat) (v5 : Int32) (H : Heap) (locs : List Loc) (ls : Array Slot) (cells slots : Nat), wL_law_b1635 x0 L9 k28 S v1 v2 v3 v4 v5 → Ok G S H → va_S (Ab G.b) s.heap H locs → lv_has ls 9 [(0, .ref b9), (1, .ref v1), (2, .ref v2), (3, .ref v3), (4, .ref v4), (5, .int v5)] → cells + (n9_28 * 97 + 100) ≤ 603072 → slots + (n9_28 * 2225 + 2239) ≤ 7198826 → W p l e room_1 s m args below meth c H locs cells slots Q (F0 m 1635 ls []) := by
  intro S v1 v2 v3 v4 v5 H locs ls cells slots h hO hS hl hcc hss
  unfold wL_law_b1635 at h
  refine lv_aload_n C0.1 C0.2.1 dL_law_1635 rfl (lv_at hl 1 rfl) ?_
  refine lv_aload_n C0.1 C0.2.1 dL_law_1636 rfl (lv_at hl 0 rfl) ?_
  refine lv_iload C0.1 C0.2.1 dL_law_1637 (lv_at hl 5 rfl) ?_
  refine lv_iconst (v := 1) C0.1 C0.2.1 dL_law_1639 (by decide) ?_
  refine lv_iadd C0.1 C0.2.1 dL_law_1640 ?_
  obtain ⟨e1, h⟩ := h
  refine va_sld C0.1 C0.2.1 hX9 hbl9 hbA9 hS e1 dL_law_1641 ?_
  refine lv_aload_n C0.1 C0.2.1 dL_law_1642 rfl (lv_at hl 3 rfl) ?_
  refine c_SW C0 hO hS (mL_heightOver hl9 h) tb_1044 tb_1045 tb_73 tb_1046 hd_L_heightOver rfl ⟨⟨by decide, by decide⟩, by show _ + 3 ≤ 603072; omega, by show _ + 14 ≤ 7198826; omega⟩ hl.1 rfl (Nat.le_of_ble_eq_true rfl) dL_law_1643 (kI (fun r3 S2 H locs h hO hS => ?_))
  change W _ _ _ _ _ _ _ _ _ _ _ _ (_ + 3) (_ + 14) _ _
  refine lv_istore C0.1 C0.2.1 dL_law_1646 hl (by decide) rfl (fun ls hl => ?_)
  refine lv_aload_n C0.1 C0.2.1 dL_law_1648 rfl (lv_at hl 3 rfl) ?_
  refine lv_aload_n C0.1 C0.2.1 dL_law_1649 rfl (lv_at hl 1 rfl) ?_
  refine lv_iload C0.1 C0.2.1 dL_law_1650 (lv_at hl 6 rfl) ?_
  refine lv_iconst (v := 1) C0.1 C0.2.1 dL_law_1652 (by decide) ?_
  refine lv_iadd C0.1 C0.2.1 dL_law_1653 ?_
  obtain ⟨e4, h⟩ := h
  refine va_sld C0.1 C0.2.1 hX9 hbl9 hbA9 hS e4 dL_law_1654 ?_
  obtain ⟨i7, h⟩ := h
  refine c_V C0 hO hS (mX8_heightOver h) i7 (by decide) rfl rfl tb_1658 tb_1659 tb_1660 tb_81 tb_1661 hd_X8_heightOver rfl ⟨⟨by decide, by decide⟩, by show _ + 0 ≤ 603072; omega, by show _ + 0 ≤ 7198826; omega⟩ hl.1 rfl (Nat.le_of_ble_eq_true rfl) dL_law_1655 (kJ (fun r6 S5 H locs h hO hS => ?_))
  change W _ _ _ _ _ _ _ _ _ _ _ _ (_ + 0) (_ + 0) _ _
  refine lv_lstore C0.1 C0.2.1 dL_law_1658 hl (by decide) rfl (fun ls hl => ?_)
  refine lv_aload_n C0.1 C0.2.1 dL_law_1660 rfl (lv_at hl 4 rfl) ?_
  obtain ⟨i10, h⟩ := h
  refine c_V C0 hO hS (mX8_thrown h) i10 (by decide) rfl rfl tb_1443 tb_1444 tb_1445 tb_81 tb_1446 hd_X8_thrown rfl ⟨⟨by decide, by decide⟩, by show _ + 0 ≤ 603072; omega, by show _ + 0 ≤ 7198826; omega⟩ hl.1 rfl (Nat.le_of_ble_eq_true rfl) dL_law_1661 (kI (fun r9 S8 H locs h hO hS => ?_))
  change W _ _ _ _ _ _ _ _ _ _ _ _ (_ + 0) (_ + 0) _ _
  refine lv_iload C0.1 C0.2.1 dL_law_1664 (lv_at hl 1 rfl) ?_
  refine lv_icmp_eq (tgt := 1671) C0.1 C0.2.1 dL_law_1666 (by decide) (fun c11 => ?_) (fun c11 => ?_)
  · replace h := h.1 c11
    refine lv_iload C0.1 C0.2.1 dL_law_1671 (lv_at hl 1 rfl) ?_
    refine lv_if_ne (tgt := 1687) C0.1 C0.2.1 dL_law_1673 (by decide) (fun c12 => ?_) (fun c12 => ?_)
    · replace h := h.1 c12
      exact bL_law_b1687 C0 Y hl9 hX9 hbl9 hbA9 hend9 hk28 _ _ _ _ _ _ _ _ _ _ _ h hO hS (lv_sub hl [2, 3, 4, 5, 6, 7] rfl) (by clear h; omega) (by clear h; omega)
    · replace h := h.2 c12
      refine lv_aload_n C0.1 C0.2.1 dL_law_1676 rfl (lv_at hl 5 rfl) ?_
      refine lv_iconst (v := 0) C0.1 C0.2.1 dL_law_1677 (by decide) ?_
      obtain ⟨i13, h⟩ := h
      obtain ⟨e14, h⟩ := h
      refine r_lald C0 hO i13 e14 dL_law_1678 ?_
      refine lv_lload C0.1 C0.2.1 dL_law_1679 (lv_at hl 0 rfl) ?_
      refine W.lcmp C0.1 C0.2.1 dL_law_1681 ?_
      refine lv_if_eq (tgt := 1687) C0.1 C0.2.1 dL_law_1682 (by decide) (fun c15 => ?_) (fun c15 => ?_)
      · replace h := h.1 c15
        exact bL_law_b1687 C0 Y hl9 hX9 hbl9 hbA9 hend9 hk28 _ _ _ _ _ _ _ _ _ _ _ h hO hS (lv_sub hl [2, 3, 4, 5, 6, 7] rfl) (by clear h; omega) (by clear h; omega)
      · replace h := h.2 c15
        refine lv_iconst (v := 0) C0.1 C0.2.1 dL_law_1685 (by decide) ?_
        exact h.elim
  · replace h := h.2 c11
    refine lv_iconst (v := 0) C0.1 C0.2.1 dL_law_1669 (by decide) ?_
    exact h.elim
def wL_law_b1742 (x0 : (Nat → Int32)) (L9 : Nat) (k28 : Hp → Nat → Nat → Nat → Nat → Int32 → Prop) (S : Hp) (v1 : Nat) (v2 : Nat) (v3 : Nat) (v4 : Nat) (v5 : Int32) : Prop := wL_law_b3146 x0 L9 k28 S v1 v2 v3 v4 v5
set_option maxHeartbeats 4000000 in
set_option maxRecDepth 100000 in
theorem bL_law_b1742 {p : Program} {l : Launch} {e : Env} {s : State} {m : MethodId} {args : Array Value} {below : List Frame} {meth : Method} {c : Code} {G : Gw} {b9 : Nat} {Q : State → Prop} {x0 : (Nat → Int32)} {L9 : Nat} (C0 : Mx p s m c code 9 args yL_law.cls G) (Y : My meth (some .boolean)) (hl9 : l.stackTraces = false) (hX9 : va_X b9 L9 x0 s s.heap) (hbl9 : b9 < s.heap.size) (hbA9 : ¬ Ab G.b b9) (hend9 : ∀ (pc : Nat) (H : Heap) (locs : List Loc) (ls : Array Slot) (cells slots : Nat), decode code pc = .ok (.ireturn, 1) → va_S (Ab G.b) s.heap H locs → cells ≤ 603072 → slots ≤ 7198826 → W p l e room_1 s m args below meth c H locs cells slots Q (F0 m pc ls [.int 1])) {n9_28 : Nat} {k28 : Hp → Nat → Nat → Nat → Nat → Int32 → Prop} (hk28 : ∀ (S : Hp) (v1 : Nat) (v2 : Nat) (v3 : Nat) (v4 : Nat) (v5 : Int32) (H : Heap) (locs : List Loc) (ls : Array Slot) (cells slots : Nat), k28 S v1 v2 v3 v4 v5 → Ok G S H → va_S (Ab G.b) s.heap H locs → lv_has ls 9 [(0, .ref b9), (1, .ref v1), (2, .ref v2), (3, .ref v3), (4, .ref v4), (5, .int v5)] → cells + (n9_28 * 97 + 97) ≤ 603072 → slots + (n9_28 * 2225 + 2225) ≤ 7198826 → W p l e room_1 s m args below meth c H locs cells slots Q (F0 m 28 ls [])) : ∀ (S : Hp) (v1 : Nat) (v2 : Nat) (v3 : Nat) (v4 : Nat) (v5 : Int32) (H : Heap) (locs : List Loc) (ls : Array Slot) (cells slots : Nat), wL_law_b1742 x0 L9 k28 S v1 v2 v3 v4 v5 → Ok G S H → va_S (Ab G.b) s.heap H locs → lv_has ls 9 [(0, .ref b9), (1, .ref v1), (2, .ref v2), (3, .ref v3), (4, .ref v4), (5, .int v5)] → cells + (n9_28 * 97 + 97) ≤ 603072 → slots + (n9_28 * 2225 + 2225) ≤ 7198826 → W p l e room_1 s m args below meth c H locs cells slots Q (F0 m 1742 ls []) := by
  intro S v1 v2 v3 v4 v5 H locs ls cells slots h hO hS hl hcc hss
  unfold wL_law_b1742 at h
  refine lv_goto (tgt := 3146) C0.1 C0.2.1 dL_law_1742 (by decide) ?_
  exact bL_law_b3146 C0 Y hl9 hX9 hbl9 hbA9 hend9 hk28 _ _ _ _ _ _ _ _ _ _ _ h hO hS (lv_sub hl [0, 1, 2, 3, 4, 5] rfl) (by clear h; omega) (by clear h; omega)
def wL_law_b1690 (x0 : (Nat → Int32)) (L9 : Nat) (k28 : Hp → Nat → Nat → Nat → Nat → Int32 → Prop) (S : Hp) (v1 : Nat) (v2 : Nat) (v3 : Nat) (v4 : Nat) (v5 : Int32) : Prop := vp_in (v5 + 1) L9 ∧ wL_heightUnder S v1 (x0 (v5 + 1).toNatClampNeg) v3 (fun S2 r3 => vp_in (v5 + 1) L9 ∧ isA S2 v2 8 ∧ wX8_heightUnder S2 v2 (x0 (v5 + 1).toNatClampNeg) (fun S5 r6 => isA S5 v2 8 ∧ wX8_thrown S5 v2 (fun S8 r9 => ((r9 = r3 → ((¬ r3 = 0 → wL_law_b1742 x0 L9 k28 S8 v1 v2 v3 v4 v5) ∧ (r3 = 0 → isA S8 v3 22 ∧ vp_in 0 (S8.N v3) ∧ (((lg_cmp (S8.AJ v3 ((0 : Int32).toNatClampNeg)) r6) = 0 → wL_law_b1742 x0 L9 k28 S8 v1 v2 v3 v4 v5) ∧ (¬ ((lg_cmp (S8.AJ v3 ((0 : Int32).toNatClampNeg)) r6) = 0) → False))))) ∧ (¬ (r9 = r3) → False)))))
set_option maxHeartbeats 4000000 in
set_option maxRecDepth 100000 in
theorem bL_law_b1690 {p : Program} {l : Launch} {e : Env} {s : State} {m : MethodId} {args : Array Value} {below : List Frame} {meth : Method} {c : Code} {G : Gw} {b9 : Nat} {Q : State → Prop} {x0 : (Nat → Int32)} {L9 : Nat} (C0 : Mx p s m c code 9 args yL_law.cls G) (Y : My meth (some .boolean)) (hl9 : l.stackTraces = false) (hX9 : va_X b9 L9 x0 s s.heap) (hbl9 : b9 < s.heap.size) (hbA9 : ¬ Ab G.b b9) (hend9 : ∀ (pc : Nat) (H : Heap) (locs : List Loc) (ls : Array Slot) (cells slots : Nat), decode code pc = .ok (.ireturn, 1) → va_S (Ab G.b) s.heap H locs → cells ≤ 603072 → slots ≤ 7198826 → W p l e room_1 s m args below meth c H locs cells slots Q (F0 m pc ls [.int 1])) {n9_28 : Nat} {k28 : Hp → Nat → Nat → Nat → Nat → Int32 → Prop} (hk28 : ∀ (S : Hp) (v1 : Nat) (v2 : Nat) (v3 : Nat) (v4 : Nat) (v5 : Int32) (H : Heap) (locs : List Loc) (ls : Array Slot) (cells slots : Nat), k28 S v1 v2 v3 v4 v5 → Ok G S H → va_S (Ab G.b) s.heap H locs → lv_has ls 9 [(0, .ref b9), (1, .ref v1), (2, .ref v2), (3, .ref v3), (4, .ref v4), (5, .int v5)] → cells + (n9_28 * 97 + 97) ≤ 603072 → slots + (n9_28 * 2225 + 2225) ≤ 7198826 → W p l e room_1 s m args below meth c H locs cells slots Q (F0 m 28 ls [])) : ∀ (S : Hp) (v1 : Nat) (v2 : Nat) (v3 : Nat) (v4 : Nat) (v5 : Int32) (H : Heap) (locs : List Loc) (ls : Array Slot) (cells slots : Nat), wL_law_b1690 x0 L9 k28 S v1 v2 v3 v4 v5 → Ok G S H → va_S (Ab G.b) s.heap H locs → lv_has ls 9 [(0, .ref b9), (1, .ref v1), (2, .ref v2), (3, .ref v3), (4, .ref v4), (5, .int v5)] → cells + (n9_28 * 97 + 100) ≤ 603072 → slots + (n9_28 * 2225 + 2239) ≤ 7198826 → W p l e room_1 s m args below meth c H locs cells slots Q (F0 m 1690 ls []) := by
  intro S v1 v2 v3 v4 v5 H locs ls cells slots h hO hS hl hcc hss
  unfold wL_law_b1690 at h
  refine lv_aload_n C0.1 C0.2.1 dL_law_1690 rfl (lv_at hl 1 rfl) ?_
  refine lv_aload_n C0.1 C0.2.1 dL_law_1691 rfl (lv_at hl 0 rfl) ?_
  refine lv_iload C0.1 C0.2.1 dL_law_1692 (lv_at hl 5 rfl) ?_
  refine lv_iconst (v := 1) C0.1 C0.2.1 dL_law_1694 (by decide) ?_
  refine lv_iadd C0.1 C0.2.1 dL_law_1695 ?_
  obtain ⟨e1, h⟩ := h
  refine va_sld C0.1 C0.2.1 hX9 hbl9 hbA9 hS e1 dL_law_1696 ?_
  refine lv_aload_n C0.1 C0.2.1 dL_law_1697 rfl (lv_at hl 3 rfl) ?_
  refine c_SW C0 hO hS (mL_heightUnder hl9 h) tb_1061 tb_1062 tb_73 tb_1063 hd_L_heightUnder rfl ⟨⟨by decide, by decide⟩, by show _ + 3 ≤ 603072; omega, by show _ + 14 ≤ 7198826; omega⟩ hl.1 rfl (Nat.le_of_ble_eq_true rfl) dL_law_1698 (kI (fun r3 S2 H locs h hO hS => ?_))
  change W _ _ _ _ _ _ _ _ _ _ _ _ (_ + 3) (_ + 14) _ _
  refine lv_istore C0.1 C0.2.1 dL_law_1701 hl (by decide) rfl (fun ls hl => ?_)
  refine lv_aload_n C0.1 C0.2.1 dL_law_1703 rfl (lv_at hl 3 rfl) ?_
  refine lv_aload_n C0.1 C0.2.1 dL_law_1704 rfl (lv_at hl 1 rfl) ?_
  refine lv_iload C0.1 C0.2.1 dL_law_1705 (lv_at hl 6 rfl) ?_
  refine lv_iconst (v := 1) C0.1 C0.2.1 dL_law_1707 (by decide) ?_
  refine lv_iadd C0.1 C0.2.1 dL_law_1708 ?_
  obtain ⟨e4, h⟩ := h
  refine va_sld C0.1 C0.2.1 hX9 hbl9 hbA9 hS e4 dL_law_1709 ?_
  obtain ⟨i7, h⟩ := h
  refine c_V C0 hO hS (mX8_heightUnder h) i7 (by decide) rfl rfl tb_1675 tb_1676 tb_1677 tb_81 tb_1678 hd_X8_heightUnder rfl ⟨⟨by decide, by decide⟩, by show _ + 0 ≤ 603072; omega, by show _ + 0 ≤ 7198826; omega⟩ hl.1 rfl (Nat.le_of_ble_eq_true rfl) dL_law_1710 (kJ (fun r6 S5 H locs h hO hS => ?_))
  change W _ _ _ _ _ _ _ _ _ _ _ _ (_ + 0) (_ + 0) _ _
  refine lv_lstore C0.1 C0.2.1 dL_law_1713 hl (by decide) rfl (fun ls hl => ?_)
  refine lv_aload_n C0.1 C0.2.1 dL_law_1715 rfl (lv_at hl 4 rfl) ?_
  obtain ⟨i10, h⟩ := h
  refine c_V C0 hO hS (mX8_thrown h) i10 (by decide) rfl rfl tb_1443 tb_1444 tb_1445 tb_81 tb_1446 hd_X8_thrown rfl ⟨⟨by decide, by decide⟩, by show _ + 0 ≤ 603072; omega, by show _ + 0 ≤ 7198826; omega⟩ hl.1 rfl (Nat.le_of_ble_eq_true rfl) dL_law_1716 (kI (fun r9 S8 H locs h hO hS => ?_))
  change W _ _ _ _ _ _ _ _ _ _ _ _ (_ + 0) (_ + 0) _ _
  refine lv_iload C0.1 C0.2.1 dL_law_1719 (lv_at hl 1 rfl) ?_
  refine lv_icmp_eq (tgt := 1726) C0.1 C0.2.1 dL_law_1721 (by decide) (fun c11 => ?_) (fun c11 => ?_)
  · replace h := h.1 c11
    refine lv_iload C0.1 C0.2.1 dL_law_1726 (lv_at hl 1 rfl) ?_
    refine lv_if_ne (tgt := 1742) C0.1 C0.2.1 dL_law_1728 (by decide) (fun c12 => ?_) (fun c12 => ?_)
    · replace h := h.1 c12
      exact bL_law_b1742 C0 Y hl9 hX9 hbl9 hbA9 hend9 hk28 _ _ _ _ _ _ _ _ _ _ _ h hO hS (lv_sub hl [2, 3, 4, 5, 6, 7] rfl) (by clear h; omega) (by clear h; omega)
    · replace h := h.2 c12
      refine lv_aload_n C0.1 C0.2.1 dL_law_1731 rfl (lv_at hl 5 rfl) ?_
      refine lv_iconst (v := 0) C0.1 C0.2.1 dL_law_1732 (by decide) ?_
      obtain ⟨i13, h⟩ := h
      obtain ⟨e14, h⟩ := h
      refine r_lald C0 hO i13 e14 dL_law_1733 ?_
      refine lv_lload C0.1 C0.2.1 dL_law_1734 (lv_at hl 0 rfl) ?_
      refine W.lcmp C0.1 C0.2.1 dL_law_1736 ?_
      refine lv_if_eq (tgt := 1742) C0.1 C0.2.1 dL_law_1737 (by decide) (fun c15 => ?_) (fun c15 => ?_)
      · replace h := h.1 c15
        exact bL_law_b1742 C0 Y hl9 hX9 hbl9 hbA9 hend9 hk28 _ _ _ _ _ _ _ _ _ _ _ h hO hS (lv_sub hl [2, 3, 4, 5, 6, 7] rfl) (by clear h; omega) (by clear h; omega)
      · replace h := h.2 c15
        refine lv_iconst (v := 0) C0.1 C0.2.1 dL_law_1740 (by decide) ?_
        exact h.elim
  · replace h := h.2 c11
    refine lv_iconst (v := 0) C0.1 C0.2.1 dL_law_1724 (by decide) ?_
    exact h.elim
def wL_law_b1797 (x0 : (Nat → Int32)) (L9 : Nat) (k28 : Hp → Nat → Nat → Nat → Nat → Int32 → Prop) (S : Hp) (v1 : Nat) (v2 : Nat) (v3 : Nat) (v4 : Nat) (v5 : Int32) : Prop := wL_law_b3146 x0 L9 k28 S v1 v2 v3 v4 v5
set_option maxHeartbeats 4000000 in
set_option maxRecDepth 100000 in
theorem bL_law_b1797 {p : Program} {l : Launch} {e : Env} {s : State} {m : MethodId} {args : Array Value} {below : List Frame} {meth : Method} {c : Code} {G : Gw} {b9 : Nat} {Q : State → Prop} {x0 : (Nat → Int32)} {L9 : Nat} (C0 : Mx p s m c code 9 args yL_law.cls G) (Y : My meth (some .boolean)) (hl9 : l.stackTraces = false) (hX9 : va_X b9 L9 x0 s s.heap) (hbl9 : b9 < s.heap.size) (hbA9 : ¬ Ab G.b b9) (hend9 : ∀ (pc : Nat) (H : Heap) (locs : List Loc) (ls : Array Slot) (cells slots : Nat), decode code pc = .ok (.ireturn, 1) → va_S (Ab G.b) s.heap H locs → cells ≤ 603072 → slots ≤ 7198826 → W p l e room_1 s m args below meth c H locs cells slots Q (F0 m pc ls [.int 1])) {n9_28 : Nat} {k28 : Hp → Nat → Nat → Nat → Nat → Int32 → Prop} (hk28 : ∀ (S : Hp) (v1 : Nat) (v2 : Nat) (v3 : Nat) (v4 : Nat) (v5 : Int32) (H : Heap) (locs : List Loc) (ls : Array Slot) (cells slots : Nat), k28 S v1 v2 v3 v4 v5 → Ok G S H → va_S (Ab G.b) s.heap H locs → lv_has ls 9 [(0, .ref b9), (1, .ref v1), (2, .ref v2), (3, .ref v3), (4, .ref v4), (5, .int v5)] → cells + (n9_28 * 97 + 97) ≤ 603072 → slots + (n9_28 * 2225 + 2225) ≤ 7198826 → W p l e room_1 s m args below meth c H locs cells slots Q (F0 m 28 ls [])) : ∀ (S : Hp) (v1 : Nat) (v2 : Nat) (v3 : Nat) (v4 : Nat) (v5 : Int32) (H : Heap) (locs : List Loc) (ls : Array Slot) (cells slots : Nat), wL_law_b1797 x0 L9 k28 S v1 v2 v3 v4 v5 → Ok G S H → va_S (Ab G.b) s.heap H locs → lv_has ls 9 [(0, .ref b9), (1, .ref v1), (2, .ref v2), (3, .ref v3), (4, .ref v4), (5, .int v5)] → cells + (n9_28 * 97 + 97) ≤ 603072 → slots + (n9_28 * 2225 + 2225) ≤ 7198826 → W p l e room_1 s m args below meth c H locs cells slots Q (F0 m 1797 ls []) := by
  intro S v1 v2 v3 v4 v5 H locs ls cells slots h hO hS hl hcc hss
  unfold wL_law_b1797 at h
  refine lv_goto (tgt := 3146) C0.1 C0.2.1 dL_law_1797 (by decide) ?_
  exact bL_law_b3146 C0 Y hl9 hX9 hbl9 hbA9 hend9 hk28 _ _ _ _ _ _ _ _ _ _ _ h hO hS (lv_sub hl [0, 1, 2, 3, 4, 5] rfl) (by clear h; omega) (by clear h; omega)
def wL_law_b1745 (x0 : (Nat → Int32)) (L9 : Nat) (k28 : Hp → Nat → Nat → Nat → Nat → Int32 → Prop) (S : Hp) (v1 : Nat) (v2 : Nat) (v3 : Nat) (v4 : Nat) (v5 : Int32) : Prop := vp_in (v5 + 1) L9 ∧ wL_steepOver S v1 (x0 (v5 + 1).toNatClampNeg) v3 (fun S2 r3 => vp_in (v5 + 1) L9 ∧ isA S2 v2 8 ∧ wX8_steepOver S2 v2 (x0 (v5 + 1).toNatClampNeg) (fun S5 r6 => isA S5 v2 8 ∧ wX8_thrown S5 v2 (fun S8 r9 => ((r9 = r3 → ((¬ r3 = 0 → wL_law_b1797 x0 L9 k28 S8 v1 v2 v3 v4 v5) ∧ (r3 = 0 → isA S8 v3 22 ∧ vp_in 0 (S8.N v3) ∧ (((lg_cmp (S8.AJ v3 ((0 : Int32).toNatClampNeg)) r6) = 0 → wL_law_b1797 x0 L9 k28 S8 v1 v2 v3 v4 v5) ∧ (¬ ((lg_cmp (S8.AJ v3 ((0 : Int32).toNatClampNeg)) r6) = 0) → False))))) ∧ (¬ (r9 = r3) → False)))))
set_option maxHeartbeats 4000000 in
set_option maxRecDepth 100000 in
theorem bL_law_b1745 {p : Program} {l : Launch} {e : Env} {s : State} {m : MethodId} {args : Array Value} {below : List Frame} {meth : Method} {c : Code} {G : Gw} {b9 : Nat} {Q : State → Prop} {x0 : (Nat → Int32)} {L9 : Nat} (C0 : Mx p s m c code 9 args yL_law.cls G) (Y : My meth (some .boolean)) (hl9 : l.stackTraces = false) (hX9 : va_X b9 L9 x0 s s.heap) (hbl9 : b9 < s.heap.size) (hbA9 : ¬ Ab G.b b9) (hend9 : ∀ (pc : Nat) (H : Heap) (locs : List Loc) (ls : Array Slot) (cells slots : Nat), decode code pc = .ok (.ireturn, 1) → va_S (Ab G.b) s.heap H locs → cells ≤ 603072 → slots ≤ 7198826 → W p l e room_1 s m args below meth c H locs cells slots Q (F0 m pc ls [.int 1])) {n9_28 : Nat} {k28 : Hp → Nat → Nat → Nat → Nat → Int32 → Prop} (hk28 : ∀ (S : Hp) (v1 : Nat) (v2 : Nat) (v3 : Nat) (v4 : Nat) (v5 : Int32) (H : Heap) (locs : List Loc) (ls : Array Slot) (cells slots : Nat), k28 S v1 v2 v3 v4 v5 → Ok G S H → va_S (Ab G.b) s.heap H locs → lv_has ls 9 [(0, .ref b9), (1, .ref v1), (2, .ref v2), (3, .ref v3), (4, .ref v4), (5, .int v5)] → cells + (n9_28 * 97 + 97) ≤ 603072 → slots + (n9_28 * 2225 + 2225) ≤ 7198826 → W p l e room_1 s m args below meth c H locs cells slots Q (F0 m 28 ls [])) : ∀ (S : Hp) (v1 : Nat) (v2 : Nat) (v3 : Nat) (v4 : Nat) (v5 : Int32) (H : Heap) (locs : List Loc) (ls : Array Slot) (cells slots : Nat), wL_law_b1745 x0 L9 k28 S v1 v2 v3 v4 v5 → Ok G S H → va_S (Ab G.b) s.heap H locs → lv_has ls 9 [(0, .ref b9), (1, .ref v1), (2, .ref v2), (3, .ref v3), (4, .ref v4), (5, .int v5)] → cells + (n9_28 * 97 + 100) ≤ 603072 → slots + (n9_28 * 2225 + 2239) ≤ 7198826 → W p l e room_1 s m args below meth c H locs cells slots Q (F0 m 1745 ls []) := by
  intro S v1 v2 v3 v4 v5 H locs ls cells slots h hO hS hl hcc hss
  unfold wL_law_b1745 at h
  refine lv_aload_n C0.1 C0.2.1 dL_law_1745 rfl (lv_at hl 1 rfl) ?_
  refine lv_aload_n C0.1 C0.2.1 dL_law_1746 rfl (lv_at hl 0 rfl) ?_
  refine lv_iload C0.1 C0.2.1 dL_law_1747 (lv_at hl 5 rfl) ?_
  refine lv_iconst (v := 1) C0.1 C0.2.1 dL_law_1749 (by decide) ?_
  refine lv_iadd C0.1 C0.2.1 dL_law_1750 ?_
  obtain ⟨e1, h⟩ := h
  refine va_sld C0.1 C0.2.1 hX9 hbl9 hbA9 hS e1 dL_law_1751 ?_
  refine lv_aload_n C0.1 C0.2.1 dL_law_1752 rfl (lv_at hl 3 rfl) ?_
  refine c_SW C0 hO hS (mL_steepOver hl9 h) tb_1068 tb_1069 tb_73 tb_1070 hd_L_steepOver rfl ⟨⟨by decide, by decide⟩, by show _ + 3 ≤ 603072; omega, by show _ + 14 ≤ 7198826; omega⟩ hl.1 rfl (Nat.le_of_ble_eq_true rfl) dL_law_1753 (kI (fun r3 S2 H locs h hO hS => ?_))
  change W _ _ _ _ _ _ _ _ _ _ _ _ (_ + 3) (_ + 14) _ _
  refine lv_istore C0.1 C0.2.1 dL_law_1756 hl (by decide) rfl (fun ls hl => ?_)
  refine lv_aload_n C0.1 C0.2.1 dL_law_1758 rfl (lv_at hl 3 rfl) ?_
  refine lv_aload_n C0.1 C0.2.1 dL_law_1759 rfl (lv_at hl 1 rfl) ?_
  refine lv_iload C0.1 C0.2.1 dL_law_1760 (lv_at hl 6 rfl) ?_
  refine lv_iconst (v := 1) C0.1 C0.2.1 dL_law_1762 (by decide) ?_
  refine lv_iadd C0.1 C0.2.1 dL_law_1763 ?_
  obtain ⟨e4, h⟩ := h
  refine va_sld C0.1 C0.2.1 hX9 hbl9 hbA9 hS e4 dL_law_1764 ?_
  obtain ⟨i7, h⟩ := h
  refine c_V C0 hO hS (mX8_steepOver h) i7 (by decide) rfl rfl tb_1679 tb_1680 tb_1681 tb_81 tb_1682 hd_X8_steepOver rfl ⟨⟨by decide, by decide⟩, by show _ + 0 ≤ 603072; omega, by show _ + 0 ≤ 7198826; omega⟩ hl.1 rfl (Nat.le_of_ble_eq_true rfl) dL_law_1765 (kJ (fun r6 S5 H locs h hO hS => ?_))
  change W _ _ _ _ _ _ _ _ _ _ _ _ (_ + 0) (_ + 0) _ _
  refine lv_lstore C0.1 C0.2.1 dL_law_1768 hl (by decide) rfl (fun ls hl => ?_)
  refine lv_aload_n C0.1 C0.2.1 dL_law_1770 rfl (lv_at hl 4 rfl) ?_
  obtain ⟨i10, h⟩ := h
  refine c_V C0 hO hS (mX8_thrown h) i10 (by decide) rfl rfl tb_1443 tb_1444 tb_1445 tb_81 tb_1446 hd_X8_thrown rfl ⟨⟨by decide, by decide⟩, by show _ + 0 ≤ 603072; omega, by show _ + 0 ≤ 7198826; omega⟩ hl.1 rfl (Nat.le_of_ble_eq_true rfl) dL_law_1771 (kI (fun r9 S8 H locs h hO hS => ?_))
  change W _ _ _ _ _ _ _ _ _ _ _ _ (_ + 0) (_ + 0) _ _
  refine lv_iload C0.1 C0.2.1 dL_law_1774 (lv_at hl 1 rfl) ?_
  refine lv_icmp_eq (tgt := 1781) C0.1 C0.2.1 dL_law_1776 (by decide) (fun c11 => ?_) (fun c11 => ?_)
  · replace h := h.1 c11
    refine lv_iload C0.1 C0.2.1 dL_law_1781 (lv_at hl 1 rfl) ?_
    refine lv_if_ne (tgt := 1797) C0.1 C0.2.1 dL_law_1783 (by decide) (fun c12 => ?_) (fun c12 => ?_)
    · replace h := h.1 c12
      exact bL_law_b1797 C0 Y hl9 hX9 hbl9 hbA9 hend9 hk28 _ _ _ _ _ _ _ _ _ _ _ h hO hS (lv_sub hl [2, 3, 4, 5, 6, 7] rfl) (by clear h; omega) (by clear h; omega)
    · replace h := h.2 c12
      refine lv_aload_n C0.1 C0.2.1 dL_law_1786 rfl (lv_at hl 5 rfl) ?_
      refine lv_iconst (v := 0) C0.1 C0.2.1 dL_law_1787 (by decide) ?_
      obtain ⟨i13, h⟩ := h
      obtain ⟨e14, h⟩ := h
      refine r_lald C0 hO i13 e14 dL_law_1788 ?_
      refine lv_lload C0.1 C0.2.1 dL_law_1789 (lv_at hl 0 rfl) ?_
      refine W.lcmp C0.1 C0.2.1 dL_law_1791 ?_
      refine lv_if_eq (tgt := 1797) C0.1 C0.2.1 dL_law_1792 (by decide) (fun c15 => ?_) (fun c15 => ?_)
      · replace h := h.1 c15
        exact bL_law_b1797 C0 Y hl9 hX9 hbl9 hbA9 hend9 hk28 _ _ _ _ _ _ _ _ _ _ _ h hO hS (lv_sub hl [2, 3, 4, 5, 6, 7] rfl) (by clear h; omega) (by clear h; omega)
      · replace h := h.2 c15
        refine lv_iconst (v := 0) C0.1 C0.2.1 dL_law_1795 (by decide) ?_
        exact h.elim
  · replace h := h.2 c11
    refine lv_iconst (v := 0) C0.1 C0.2.1 dL_law_1779 (by decide) ?_
    exact h.elim
def wL_law_b1852 (x0 : (Nat → Int32)) (L9 : Nat) (k28 : Hp → Nat → Nat → Nat → Nat → Int32 → Prop) (S : Hp) (v1 : Nat) (v2 : Nat) (v3 : Nat) (v4 : Nat) (v5 : Int32) : Prop := wL_law_b3146 x0 L9 k28 S v1 v2 v3 v4 v5
set_option maxHeartbeats 4000000 in
set_option maxRecDepth 100000 in
theorem bL_law_b1852 {p : Program} {l : Launch} {e : Env} {s : State} {m : MethodId} {args : Array Value} {below : List Frame} {meth : Method} {c : Code} {G : Gw} {b9 : Nat} {Q : State → Prop} {x0 : (Nat → Int32)} {L9 : Nat} (C0 : Mx p s m c code 9 args yL_law.cls G) (Y : My meth (some .boolean)) (hl9 : l.stackTraces = false) (hX9 : va_X b9 L9 x0 s s.heap) (hbl9 : b9 < s.heap.size) (hbA9 : ¬ Ab G.b b9) (hend9 : ∀ (pc : Nat) (H : Heap) (locs : List Loc) (ls : Array Slot) (cells slots : Nat), decode code pc = .ok (.ireturn, 1) → va_S (Ab G.b) s.heap H locs → cells ≤ 603072 → slots ≤ 7198826 → W p l e room_1 s m args below meth c H locs cells slots Q (F0 m pc ls [.int 1])) {n9_28 : Nat} {k28 : Hp → Nat → Nat → Nat → Nat → Int32 → Prop} (hk28 : ∀ (S : Hp) (v1 : Nat) (v2 : Nat) (v3 : Nat) (v4 : Nat) (v5 : Int32) (H : Heap) (locs : List Loc) (ls : Array Slot) (cells slots : Nat), k28 S v1 v2 v3 v4 v5 → Ok G S H → va_S (Ab G.b) s.heap H locs → lv_has ls 9 [(0, .ref b9), (1, .ref v1), (2, .ref v2), (3, .ref v3), (4, .ref v4), (5, .int v5)] → cells + (n9_28 * 97 + 97) ≤ 603072 → slots + (n9_28 * 2225 + 2225) ≤ 7198826 → W p l e room_1 s m args below meth c H locs cells slots Q (F0 m 28 ls [])) : ∀ (S : Hp) (v1 : Nat) (v2 : Nat) (v3 : Nat) (v4 : Nat) (v5 : Int32) (H : Heap) (locs : List Loc) (ls : Array Slot) (cells slots : Nat), wL_law_b1852 x0 L9 k28 S v1 v2 v3 v4 v5 → Ok G S H → va_S (Ab G.b) s.heap H locs → lv_has ls 9 [(0, .ref b9), (1, .ref v1), (2, .ref v2), (3, .ref v3), (4, .ref v4), (5, .int v5)] → cells + (n9_28 * 97 + 97) ≤ 603072 → slots + (n9_28 * 2225 + 2225) ≤ 7198826 → W p l e room_1 s m args below meth c H locs cells slots Q (F0 m 1852 ls []) := by
  intro S v1 v2 v3 v4 v5 H locs ls cells slots h hO hS hl hcc hss
  unfold wL_law_b1852 at h
  refine lv_goto (tgt := 3146) C0.1 C0.2.1 dL_law_1852 (by decide) ?_
  exact bL_law_b3146 C0 Y hl9 hX9 hbl9 hbA9 hend9 hk28 _ _ _ _ _ _ _ _ _ _ _ h hO hS (lv_sub hl [0, 1, 2, 3, 4, 5] rfl) (by clear h; omega) (by clear h; omega)
def wL_law_b1800 (x0 : (Nat → Int32)) (L9 : Nat) (k28 : Hp → Nat → Nat → Nat → Nat → Int32 → Prop) (S : Hp) (v1 : Nat) (v2 : Nat) (v3 : Nat) (v4 : Nat) (v5 : Int32) : Prop := vp_in (v5 + 1) L9 ∧ wL_steepUnder S v1 (x0 (v5 + 1).toNatClampNeg) v3 (fun S2 r3 => vp_in (v5 + 1) L9 ∧ isA S2 v2 8 ∧ wX8_steepUnder S2 v2 (x0 (v5 + 1).toNatClampNeg) (fun S5 r6 => isA S5 v2 8 ∧ wX8_thrown S5 v2 (fun S8 r9 => ((r9 = r3 → ((¬ r3 = 0 → wL_law_b1852 x0 L9 k28 S8 v1 v2 v3 v4 v5) ∧ (r3 = 0 → isA S8 v3 22 ∧ vp_in 0 (S8.N v3) ∧ (((lg_cmp (S8.AJ v3 ((0 : Int32).toNatClampNeg)) r6) = 0 → wL_law_b1852 x0 L9 k28 S8 v1 v2 v3 v4 v5) ∧ (¬ ((lg_cmp (S8.AJ v3 ((0 : Int32).toNatClampNeg)) r6) = 0) → False))))) ∧ (¬ (r9 = r3) → False)))))
set_option maxHeartbeats 4000000 in
set_option maxRecDepth 100000 in
theorem bL_law_b1800 {p : Program} {l : Launch} {e : Env} {s : State} {m : MethodId} {args : Array Value} {below : List Frame} {meth : Method} {c : Code} {G : Gw} {b9 : Nat} {Q : State → Prop} {x0 : (Nat → Int32)} {L9 : Nat} (C0 : Mx p s m c code 9 args yL_law.cls G) (Y : My meth (some .boolean)) (hl9 : l.stackTraces = false) (hX9 : va_X b9 L9 x0 s s.heap) (hbl9 : b9 < s.heap.size) (hbA9 : ¬ Ab G.b b9) (hend9 : ∀ (pc : Nat) (H : Heap) (locs : List Loc) (ls : Array Slot) (cells slots : Nat), decode code pc = .ok (.ireturn, 1) → va_S (Ab G.b) s.heap H locs → cells ≤ 603072 → slots ≤ 7198826 → W p l e room_1 s m args below meth c H locs cells slots Q (F0 m pc ls [.int 1])) {n9_28 : Nat} {k28 : Hp → Nat → Nat → Nat → Nat → Int32 → Prop} (hk28 : ∀ (S : Hp) (v1 : Nat) (v2 : Nat) (v3 : Nat) (v4 : Nat) (v5 : Int32) (H : Heap) (locs : List Loc) (ls : Array Slot) (cells slots : Nat), k28 S v1 v2 v3 v4 v5 → Ok G S H → va_S (Ab G.b) s.heap H locs → lv_has ls 9 [(0, .ref b9), (1, .ref v1), (2, .ref v2), (3, .ref v3), (4, .ref v4), (5, .int v5)] → cells + (n9_28 * 97 + 97) ≤ 603072 → slots + (n9_28 * 2225 + 2225) ≤ 7198826 → W p l e room_1 s m args below meth c H locs cells slots Q (F0 m 28 ls [])) : ∀ (S : Hp) (v1 : Nat) (v2 : Nat) (v3 : Nat) (v4 : Nat) (v5 : Int32) (H : Heap) (locs : List Loc) (ls : Array Slot) (cells slots : Nat), wL_law_b1800 x0 L9 k28 S v1 v2 v3 v4 v5 → Ok G S H → va_S (Ab G.b) s.heap H locs → lv_has ls 9 [(0, .ref b9), (1, .ref v1), (2, .ref v2), (3, .ref v3), (4, .ref v4), (5, .int v5)] → cells + (n9_28 * 97 + 100) ≤ 603072 → slots + (n9_28 * 2225 + 2239) ≤ 7198826 → W p l e room_1 s m args below meth c H locs cells slots Q (F0 m 1800 ls []) := by
  intro S v1 v2 v3 v4 v5 H locs ls cells slots h hO hS hl hcc hss
  unfold wL_law_b1800 at h
  refine lv_aload_n C0.1 C0.2.1 dL_law_1800 rfl (lv_at hl 1 rfl) ?_
  refine lv_aload_n C0.1 C0.2.1 dL_law_1801 rfl (lv_at hl 0 rfl) ?_
  refine lv_iload C0.1 C0.2.1 dL_law_1802 (lv_at hl 5 rfl) ?_
  refine lv_iconst (v := 1) C0.1 C0.2.1 dL_law_1804 (by decide) ?_
  refine lv_iadd C0.1 C0.2.1 dL_law_1805 ?_
  obtain ⟨e1, h⟩ := h
  refine va_sld C0.1 C0.2.1 hX9 hbl9 hbA9 hS e1 dL_law_1806 ?_
  refine lv_aload_n C0.1 C0.2.1 dL_law_1807 rfl (lv_at hl 3 rfl) ?_
  refine c_SW C0 hO hS (mL_steepUnder hl9 h) tb_1083 tb_1084 tb_73 tb_1085 hd_L_steepUnder rfl ⟨⟨by decide, by decide⟩, by show _ + 3 ≤ 603072; omega, by show _ + 14 ≤ 7198826; omega⟩ hl.1 rfl (Nat.le_of_ble_eq_true rfl) dL_law_1808 (kI (fun r3 S2 H locs h hO hS => ?_))
  change W _ _ _ _ _ _ _ _ _ _ _ _ (_ + 3) (_ + 14) _ _
  refine lv_istore C0.1 C0.2.1 dL_law_1811 hl (by decide) rfl (fun ls hl => ?_)
  refine lv_aload_n C0.1 C0.2.1 dL_law_1813 rfl (lv_at hl 3 rfl) ?_
  refine lv_aload_n C0.1 C0.2.1 dL_law_1814 rfl (lv_at hl 1 rfl) ?_
  refine lv_iload C0.1 C0.2.1 dL_law_1815 (lv_at hl 6 rfl) ?_
  refine lv_iconst (v := 1) C0.1 C0.2.1 dL_law_1817 (by decide) ?_
  refine lv_iadd C0.1 C0.2.1 dL_law_1818 ?_
  obtain ⟨e4, h⟩ := h
  refine va_sld C0.1 C0.2.1 hX9 hbl9 hbA9 hS e4 dL_law_1819 ?_
  obtain ⟨i7, h⟩ := h
  refine c_V C0 hO hS (mX8_steepUnder h) i7 (by decide) rfl rfl tb_1687 tb_1688 tb_1689 tb_81 tb_1690 hd_X8_steepUnder rfl ⟨⟨by decide, by decide⟩, by show _ + 0 ≤ 603072; omega, by show _ + 0 ≤ 7198826; omega⟩ hl.1 rfl (Nat.le_of_ble_eq_true rfl) dL_law_1820 (kJ (fun r6 S5 H locs h hO hS => ?_))
  change W _ _ _ _ _ _ _ _ _ _ _ _ (_ + 0) (_ + 0) _ _
  refine lv_lstore C0.1 C0.2.1 dL_law_1823 hl (by decide) rfl (fun ls hl => ?_)
  refine lv_aload_n C0.1 C0.2.1 dL_law_1825 rfl (lv_at hl 4 rfl) ?_
  obtain ⟨i10, h⟩ := h
  refine c_V C0 hO hS (mX8_thrown h) i10 (by decide) rfl rfl tb_1443 tb_1444 tb_1445 tb_81 tb_1446 hd_X8_thrown rfl ⟨⟨by decide, by decide⟩, by show _ + 0 ≤ 603072; omega, by show _ + 0 ≤ 7198826; omega⟩ hl.1 rfl (Nat.le_of_ble_eq_true rfl) dL_law_1826 (kI (fun r9 S8 H locs h hO hS => ?_))
  change W _ _ _ _ _ _ _ _ _ _ _ _ (_ + 0) (_ + 0) _ _
  refine lv_iload C0.1 C0.2.1 dL_law_1829 (lv_at hl 1 rfl) ?_
  refine lv_icmp_eq (tgt := 1836) C0.1 C0.2.1 dL_law_1831 (by decide) (fun c11 => ?_) (fun c11 => ?_)
  · replace h := h.1 c11
    refine lv_iload C0.1 C0.2.1 dL_law_1836 (lv_at hl 1 rfl) ?_
    refine lv_if_ne (tgt := 1852) C0.1 C0.2.1 dL_law_1838 (by decide) (fun c12 => ?_) (fun c12 => ?_)
    · replace h := h.1 c12
      exact bL_law_b1852 C0 Y hl9 hX9 hbl9 hbA9 hend9 hk28 _ _ _ _ _ _ _ _ _ _ _ h hO hS (lv_sub hl [2, 3, 4, 5, 6, 7] rfl) (by clear h; omega) (by clear h; omega)
    · replace h := h.2 c12
      refine lv_aload_n C0.1 C0.2.1 dL_law_1841 rfl (lv_at hl 5 rfl) ?_
      refine lv_iconst (v := 0) C0.1 C0.2.1 dL_law_1842 (by decide) ?_
      obtain ⟨i13, h⟩ := h
      obtain ⟨e14, h⟩ := h
      refine r_lald C0 hO i13 e14 dL_law_1843 ?_
      refine lv_lload C0.1 C0.2.1 dL_law_1844 (lv_at hl 0 rfl) ?_
      refine W.lcmp C0.1 C0.2.1 dL_law_1846 ?_
      refine lv_if_eq (tgt := 1852) C0.1 C0.2.1 dL_law_1847 (by decide) (fun c15 => ?_) (fun c15 => ?_)
      · replace h := h.1 c15
        exact bL_law_b1852 C0 Y hl9 hX9 hbl9 hbA9 hend9 hk28 _ _ _ _ _ _ _ _ _ _ _ h hO hS (lv_sub hl [2, 3, 4, 5, 6, 7] rfl) (by clear h; omega) (by clear h; omega)
      · replace h := h.2 c15
        refine lv_iconst (v := 0) C0.1 C0.2.1 dL_law_1850 (by decide) ?_
        exact h.elim
  · replace h := h.2 c11
    refine lv_iconst (v := 0) C0.1 C0.2.1 dL_law_1834 (by decide) ?_
    exact h.elim
def wL_law_b1932 (x0 : (Nat → Int32)) (L9 : Nat) (k28 : Hp → Nat → Nat → Nat → Nat → Int32 → Prop) (S : Hp) (v1 : Nat) (v2 : Nat) (v3 : Nat) (v4 : Nat) (v5 : Int32) : Prop := wL_law_b3146 x0 L9 k28 S v1 v2 v3 v4 v5
set_option maxHeartbeats 4000000 in
set_option maxRecDepth 100000 in
theorem bL_law_b1932 {p : Program} {l : Launch} {e : Env} {s : State} {m : MethodId} {args : Array Value} {below : List Frame} {meth : Method} {c : Code} {G : Gw} {b9 : Nat} {Q : State → Prop} {x0 : (Nat → Int32)} {L9 : Nat} (C0 : Mx p s m c code 9 args yL_law.cls G) (Y : My meth (some .boolean)) (hl9 : l.stackTraces = false) (hX9 : va_X b9 L9 x0 s s.heap) (hbl9 : b9 < s.heap.size) (hbA9 : ¬ Ab G.b b9) (hend9 : ∀ (pc : Nat) (H : Heap) (locs : List Loc) (ls : Array Slot) (cells slots : Nat), decode code pc = .ok (.ireturn, 1) → va_S (Ab G.b) s.heap H locs → cells ≤ 603072 → slots ≤ 7198826 → W p l e room_1 s m args below meth c H locs cells slots Q (F0 m pc ls [.int 1])) {n9_28 : Nat} {k28 : Hp → Nat → Nat → Nat → Nat → Int32 → Prop} (hk28 : ∀ (S : Hp) (v1 : Nat) (v2 : Nat) (v3 : Nat) (v4 : Nat) (v5 : Int32) (H : Heap) (locs : List Loc) (ls : Array Slot) (cells slots : Nat), k28 S v1 v2 v3 v4 v5 → Ok G S H → va_S (Ab G.b) s.heap H locs → lv_has ls 9 [(0, .ref b9), (1, .ref v1), (2, .ref v2), (3, .ref v3), (4, .ref v4), (5, .int v5)] → cells + (n9_28 * 97 + 97) ≤ 603072 → slots + (n9_28 * 2225 + 2225) ≤ 7198826 → W p l e room_1 s m args below meth c H locs cells slots Q (F0 m 28 ls [])) : ∀ (S : Hp) (v1 : Nat) (v2 : Nat) (v3 : Nat) (v4 : Nat) (v5 : Int32) (H : Heap) (locs : List Loc) (ls : Array Slot) (cells slots : Nat), wL_law_b1932 x0 L9 k28 S v1 v2 v3 v4 v5 → Ok G S H → va_S (Ab G.b) s.heap H locs → lv_has ls 9 [(0, .ref b9), (1, .ref v1), (2, .ref v2), (3, .ref v3), (4, .ref v4), (5, .int v5)] → cells + (n9_28 * 97 + 97) ≤ 603072 → slots + (n9_28 * 2225 + 2225) ≤ 7198826 → W p l e room_1 s m args below meth c H locs cells slots Q (F0 m 1932 ls []) := by
  intro S v1 v2 v3 v4 v5 H locs ls cells slots h hO hS hl hcc hss
  unfold wL_law_b1932 at h
  refine lv_goto (tgt := 3146) C0.1 C0.2.1 dL_law_1932 (by decide) ?_
  exact bL_law_b3146 C0 Y hl9 hX9 hbl9 hbA9 hend9 hk28 _ _ _ _ _ _ _ _ _ _ _ h hO hS (lv_sub hl [0, 1, 2, 3, 4, 5] rfl) (by clear h; omega) (by clear h; omega)
def wL_law_b1855 (x0 : (Nat → Int32)) (L9 : Nat) (k28 : Hp → Nat → Nat → Nat → Nat → Int32 → Prop) (S : Hp) (v1 : Nat) (v2 : Nat) (v3 : Nat) (v4 : Nat) (v5 : Int32) : Prop := vp_in (v5 + 1) L9 ∧ vp_in (v5 + 2) L9 ∧ vp_in (v5 + 3) L9 ∧ wL_wish S v1 (x0 (v5 + 1).toNatClampNeg) (x0 (v5 + 2).toNatClampNeg) (x0 (v5 + 3).toNatClampNeg) v3 (fun S4 r5 => vp_in (v5 + 1) L9 ∧ vp_in (v5 + 2) L9 ∧ vp_in (v5 + 3) L9 ∧ isA S4 v2 8 ∧ wX8_wish S4 v2 (x0 (v5 + 1).toNatClampNeg) (x0 (v5 + 2).toNatClampNeg) (x0 (v5 + 3).toNatClampNeg) (fun S9 r10 => isA S9 v2 8 ∧ wX8_thrown S9 v2 (fun S12 r13 => ((r13 = r5 → ((¬ r5 = 0 → wL_law_b1932 x0 L9 k28 S12 v1 v2 v3 v4 v5) ∧ (r5 = 0 → isA S12 v3 22 ∧ vp_in 0 (S12.N v3) ∧ (((lg_cmp (S12.AJ v3 ((0 : Int32).toNatClampNeg)) r10.toInt64) = 0 → wL_law_b1932 x0 L9 k28 S12 v1 v2 v3 v4 v5) ∧ (¬ ((lg_cmp (S12.AJ v3 ((0 : Int32).toNatClampNeg)) r10.toInt64) = 0) → False))))) ∧ (¬ (r13 = r5) → False)))))
set_option maxHeartbeats 4000000 in
set_option maxRecDepth 100000 in
theorem bL_law_b1855 {p : Program} {l : Launch} {e : Env} {s : State} {m : MethodId} {args : Array Value} {below : List Frame} {meth : Method} {c : Code} {G : Gw} {b9 : Nat} {Q : State → Prop} {x0 : (Nat → Int32)} {L9 : Nat} (C0 : Mx p s m c code 9 args yL_law.cls G) (Y : My meth (some .boolean)) (hl9 : l.stackTraces = false) (hX9 : va_X b9 L9 x0 s s.heap) (hbl9 : b9 < s.heap.size) (hbA9 : ¬ Ab G.b b9) (hend9 : ∀ (pc : Nat) (H : Heap) (locs : List Loc) (ls : Array Slot) (cells slots : Nat), decode code pc = .ok (.ireturn, 1) → va_S (Ab G.b) s.heap H locs → cells ≤ 603072 → slots ≤ 7198826 → W p l e room_1 s m args below meth c H locs cells slots Q (F0 m pc ls [.int 1])) {n9_28 : Nat} {k28 : Hp → Nat → Nat → Nat → Nat → Int32 → Prop} (hk28 : ∀ (S : Hp) (v1 : Nat) (v2 : Nat) (v3 : Nat) (v4 : Nat) (v5 : Int32) (H : Heap) (locs : List Loc) (ls : Array Slot) (cells slots : Nat), k28 S v1 v2 v3 v4 v5 → Ok G S H → va_S (Ab G.b) s.heap H locs → lv_has ls 9 [(0, .ref b9), (1, .ref v1), (2, .ref v2), (3, .ref v3), (4, .ref v4), (5, .int v5)] → cells + (n9_28 * 97 + 97) ≤ 603072 → slots + (n9_28 * 2225 + 2225) ≤ 7198826 → W p l e room_1 s m args below meth c H locs cells slots Q (F0 m 28 ls [])) : ∀ (S : Hp) (v1 : Nat) (v2 : Nat) (v3 : Nat) (v4 : Nat) (v5 : Int32) (H : Heap) (locs : List Loc) (ls : Array Slot) (cells slots : Nat), wL_law_b1855 x0 L9 k28 S v1 v2 v3 v4 v5 → Ok G S H → va_S (Ab G.b) s.heap H locs → lv_has ls 9 [(0, .ref b9), (1, .ref v1), (2, .ref v2), (3, .ref v3), (4, .ref v4), (5, .int v5)] → cells + (n9_28 * 97 + 100) ≤ 603072 → slots + (n9_28 * 2225 + 2243) ≤ 7198826 → W p l e room_1 s m args below meth c H locs cells slots Q (F0 m 1855 ls []) := by
  intro S v1 v2 v3 v4 v5 H locs ls cells slots h hO hS hl hcc hss
  unfold wL_law_b1855 at h
  refine lv_aload_n C0.1 C0.2.1 dL_law_1855 rfl (lv_at hl 1 rfl) ?_
  refine lv_aload_n C0.1 C0.2.1 dL_law_1856 rfl (lv_at hl 0 rfl) ?_
  refine lv_iload C0.1 C0.2.1 dL_law_1857 (lv_at hl 5 rfl) ?_
  refine lv_iconst (v := 1) C0.1 C0.2.1 dL_law_1859 (by decide) ?_
  refine lv_iadd C0.1 C0.2.1 dL_law_1860 ?_
  obtain ⟨e1, h⟩ := h
  refine va_sld C0.1 C0.2.1 hX9 hbl9 hbA9 hS e1 dL_law_1861 ?_
  refine lv_aload_n C0.1 C0.2.1 dL_law_1862 rfl (lv_at hl 0 rfl) ?_
  refine lv_iload C0.1 C0.2.1 dL_law_1863 (lv_at hl 5 rfl) ?_
  refine lv_iconst (v := 2) C0.1 C0.2.1 dL_law_1865 (by decide) ?_
  refine lv_iadd C0.1 C0.2.1 dL_law_1866 ?_
  obtain ⟨e2, h⟩ := h
  refine va_sld C0.1 C0.2.1 hX9 hbl9 hbA9 hS e2 dL_law_1867 ?_
  refine lv_aload_n C0.1 C0.2.1 dL_law_1868 rfl (lv_at hl 0 rfl) ?_
  refine lv_iload C0.1 C0.2.1 dL_law_1869 (lv_at hl 5 rfl) ?_
  refine lv_iconst (v := 3) C0.1 C0.2.1 dL_law_1871 (by decide) ?_
  refine lv_iadd C0.1 C0.2.1 dL_law_1872 ?_
  obtain ⟨e3, h⟩ := h
  refine va_sld C0.1 C0.2.1 hX9 hbl9 hbA9 hS e3 dL_law_1873 ?_
  refine lv_aload_n C0.1 C0.2.1 dL_law_1874 rfl (lv_at hl 3 rfl) ?_
  refine c_SW C0 hO hS (mL_wish hl9 h) tb_1090 tb_1091 tb_73 tb_1092 hd_L_wish rfl ⟨⟨by decide, by decide⟩, by show _ + 3 ≤ 603072; omega, by show _ + 18 ≤ 7198826; omega⟩ hl.1 rfl (Nat.le_of_ble_eq_true rfl) dL_law_1875 (kI (fun r5 S4 H locs h hO hS => ?_))
  change W _ _ _ _ _ _ _ _ _ _ _ _ (_ + 3) (_ + 18) _ _
  refine lv_istore C0.1 C0.2.1 dL_law_1878 hl (by decide) rfl (fun ls hl => ?_)
  refine lv_aload_n C0.1 C0.2.1 dL_law_1880 rfl (lv_at hl 3 rfl) ?_
  refine lv_aload_n C0.1 C0.2.1 dL_law_1881 rfl (lv_at hl 1 rfl) ?_
  refine lv_iload C0.1 C0.2.1 dL_law_1882 (lv_at hl 6 rfl) ?_
  refine lv_iconst (v := 1) C0.1 C0.2.1 dL_law_1884 (by decide) ?_
  refine lv_iadd C0.1 C0.2.1 dL_law_1885 ?_
  obtain ⟨e6, h⟩ := h
  refine va_sld C0.1 C0.2.1 hX9 hbl9 hbA9 hS e6 dL_law_1886 ?_
  refine lv_aload_n C0.1 C0.2.1 dL_law_1887 rfl (lv_at hl 1 rfl) ?_
  refine lv_iload C0.1 C0.2.1 dL_law_1888 (lv_at hl 6 rfl) ?_
  refine lv_iconst (v := 2) C0.1 C0.2.1 dL_law_1890 (by decide) ?_
  refine lv_iadd C0.1 C0.2.1 dL_law_1891 ?_
  obtain ⟨e7, h⟩ := h
  refine va_sld C0.1 C0.2.1 hX9 hbl9 hbA9 hS e7 dL_law_1892 ?_
  refine lv_aload_n C0.1 C0.2.1 dL_law_1893 rfl (lv_at hl 1 rfl) ?_
  refine lv_iload C0.1 C0.2.1 dL_law_1894 (lv_at hl 6 rfl) ?_
  refine lv_iconst (v := 3) C0.1 C0.2.1 dL_law_1896 (by decide) ?_
  refine lv_iadd C0.1 C0.2.1 dL_law_1897 ?_
  obtain ⟨e8, h⟩ := h
  refine va_sld C0.1 C0.2.1 hX9 hbl9 hbA9 hS e8 dL_law_1898 ?_
  obtain ⟨i11, h⟩ := h
  refine c_V C0 hO hS (mX8_wish h) i11 (by decide) rfl rfl tb_1691 tb_1692 tb_1693 tb_81 tb_1694 hd_X8_wish rfl ⟨⟨by decide, by decide⟩, by show _ + 0 ≤ 603072; omega, by show _ + 0 ≤ 7198826; omega⟩ hl.1 rfl (Nat.le_of_ble_eq_true rfl) dL_law_1899 (kI (fun r10 S9 H locs h hO hS => ?_))
  change W _ _ _ _ _ _ _ _ _ _ _ _ (_ + 0) (_ + 0) _ _
  refine lv_istore C0.1 C0.2.1 dL_law_1902 hl (by decide) rfl (fun ls hl => ?_)
  refine lv_aload_n C0.1 C0.2.1 dL_law_1904 rfl (lv_at hl 4 rfl) ?_
  obtain ⟨i14, h⟩ := h
  refine c_V C0 hO hS (mX8_thrown h) i14 (by decide) rfl rfl tb_1443 tb_1444 tb_1445 tb_81 tb_1446 hd_X8_thrown rfl ⟨⟨by decide, by decide⟩, by show _ + 0 ≤ 603072; omega, by show _ + 0 ≤ 7198826; omega⟩ hl.1 rfl (Nat.le_of_ble_eq_true rfl) dL_law_1905 (kI (fun r13 S12 H locs h hO hS => ?_))
  change W _ _ _ _ _ _ _ _ _ _ _ _ (_ + 0) (_ + 0) _ _
  refine lv_iload C0.1 C0.2.1 dL_law_1908 (lv_at hl 1 rfl) ?_
  refine lv_icmp_eq (tgt := 1915) C0.1 C0.2.1 dL_law_1910 (by decide) (fun c15 => ?_) (fun c15 => ?_)
  · replace h := h.1 c15
    refine lv_iload C0.1 C0.2.1 dL_law_1915 (lv_at hl 1 rfl) ?_
    refine lv_if_ne (tgt := 1932) C0.1 C0.2.1 dL_law_1917 (by decide) (fun c16 => ?_) (fun c16 => ?_)
    · replace h := h.1 c16
      exact bL_law_b1932 C0 Y hl9 hX9 hbl9 hbA9 hend9 hk28 _ _ _ _ _ _ _ _ _ _ _ h hO hS (lv_sub hl [2, 3, 4, 5, 6, 7] rfl) (by clear h; omega) (by clear h; omega)
    · replace h := h.2 c16
      refine lv_aload_n C0.1 C0.2.1 dL_law_1920 rfl (lv_at hl 5 rfl) ?_
      refine lv_iconst (v := 0) C0.1 C0.2.1 dL_law_1921 (by decide) ?_
      obtain ⟨i17, h⟩ := h
      obtain ⟨e18, h⟩ := h
      refine r_lald C0 hO i17 e18 dL_law_1922 ?_
      refine lv_iload C0.1 C0.2.1 dL_law_1923 (lv_at hl 0 rfl) ?_
      refine lv_i2l C0.1 C0.2.1 dL_law_1925 rfl ?_
      refine W.lcmp C0.1 C0.2.1 dL_law_1926 ?_
      refine lv_if_eq (tgt := 1932) C0.1 C0.2.1 dL_law_1927 (by decide) (fun c19 => ?_) (fun c19 => ?_)
      · replace h := h.1 c19
        exact bL_law_b1932 C0 Y hl9 hX9 hbl9 hbA9 hend9 hk28 _ _ _ _ _ _ _ _ _ _ _ h hO hS (lv_sub hl [2, 3, 4, 5, 6, 7] rfl) (by clear h; omega) (by clear h; omega)
      · replace h := h.2 c19
        refine lv_iconst (v := 0) C0.1 C0.2.1 dL_law_1930 (by decide) ?_
        exact h.elim
  · replace h := h.2 c15
    refine lv_iconst (v := 0) C0.1 C0.2.1 dL_law_1913 (by decide) ?_
    exact h.elim
def wL_law_b2014 (x0 : (Nat → Int32)) (L9 : Nat) (k28 : Hp → Nat → Nat → Nat → Nat → Int32 → Prop) (S : Hp) (v1 : Nat) (v2 : Nat) (v3 : Nat) (v4 : Nat) (v5 : Int32) : Prop := wL_law_b3146 x0 L9 k28 S v1 v2 v3 v4 v5
set_option maxHeartbeats 4000000 in
set_option maxRecDepth 100000 in
theorem bL_law_b2014 {p : Program} {l : Launch} {e : Env} {s : State} {m : MethodId} {args : Array Value} {below : List Frame} {meth : Method} {c : Code} {G : Gw} {b9 : Nat} {Q : State → Prop} {x0 : (Nat → Int32)} {L9 : Nat} (C0 : Mx p s m c code 9 args yL_law.cls G) (Y : My meth (some .boolean)) (hl9 : l.stackTraces = false) (hX9 : va_X b9 L9 x0 s s.heap) (hbl9 : b9 < s.heap.size) (hbA9 : ¬ Ab G.b b9) (hend9 : ∀ (pc : Nat) (H : Heap) (locs : List Loc) (ls : Array Slot) (cells slots : Nat), decode code pc = .ok (.ireturn, 1) → va_S (Ab G.b) s.heap H locs → cells ≤ 603072 → slots ≤ 7198826 → W p l e room_1 s m args below meth c H locs cells slots Q (F0 m pc ls [.int 1])) {n9_28 : Nat} {k28 : Hp → Nat → Nat → Nat → Nat → Int32 → Prop} (hk28 : ∀ (S : Hp) (v1 : Nat) (v2 : Nat) (v3 : Nat) (v4 : Nat) (v5 : Int32) (H : Heap) (locs : List Loc) (ls : Array Slot) (cells slots : Nat), k28 S v1 v2 v3 v4 v5 → Ok G S H → va_S (Ab G.b) s.heap H locs → lv_has ls 9 [(0, .ref b9), (1, .ref v1), (2, .ref v2), (3, .ref v3), (4, .ref v4), (5, .int v5)] → cells + (n9_28 * 97 + 97) ≤ 603072 → slots + (n9_28 * 2225 + 2225) ≤ 7198826 → W p l e room_1 s m args below meth c H locs cells slots Q (F0 m 28 ls [])) : ∀ (S : Hp) (v1 : Nat) (v2 : Nat) (v3 : Nat) (v4 : Nat) (v5 : Int32) (H : Heap) (locs : List Loc) (ls : Array Slot) (cells slots : Nat), wL_law_b2014 x0 L9 k28 S v1 v2 v3 v4 v5 → Ok G S H → va_S (Ab G.b) s.heap H locs → lv_has ls 9 [(0, .ref b9), (1, .ref v1), (2, .ref v2), (3, .ref v3), (4, .ref v4), (5, .int v5)] → cells + (n9_28 * 97 + 97) ≤ 603072 → slots + (n9_28 * 2225 + 2225) ≤ 7198826 → W p l e room_1 s m args below meth c H locs cells slots Q (F0 m 2014 ls []) := by
  intro S v1 v2 v3 v4 v5 H locs ls cells slots h hO hS hl hcc hss
  unfold wL_law_b2014 at h
  refine lv_goto (tgt := 3146) C0.1 C0.2.1 dL_law_2014 (by decide) ?_
  exact bL_law_b3146 C0 Y hl9 hX9 hbl9 hbA9 hend9 hk28 _ _ _ _ _ _ _ _ _ _ _ h hO hS (lv_sub hl [0, 1, 2, 3, 4, 5] rfl) (by clear h; omega) (by clear h; omega)
def wL_law_b1935 (x0 : (Nat → Int32)) (L9 : Nat) (k28 : Hp → Nat → Nat → Nat → Nat → Int32 → Prop) (S : Hp) (v1 : Nat) (v2 : Nat) (v3 : Nat) (v4 : Nat) (v5 : Int32) : Prop := vp_in (v5 + 1) L9 ∧ vp_in (v5 + 2) L9 ∧ vp_in (v5 + 3) L9 ∧ wL_make S v1 (x0 (v5 + 1).toNatClampNeg) (((x0 (v5 + 2).toNatClampNeg).toUInt32 % 65536).toInt32) (x0 (v5 + 3).toNatClampNeg) v3 (fun S4 r5 => vp_in (v5 + 1) L9 ∧ vp_in (v5 + 2) L9 ∧ vp_in (v5 + 3) L9 ∧ isA S4 v2 8 ∧ wX8_make S4 v2 (x0 (v5 + 1).toNatClampNeg) (((x0 (v5 + 2).toNatClampNeg).toUInt32 % 65536).toInt32) (x0 (v5 + 3).toNatClampNeg) (fun S9 r10 => isA S9 v2 8 ∧ wX8_thrown S9 v2 (fun S12 r13 => ((r13 = r5 → ((¬ r5 = 0 → wL_law_b2014 x0 L9 k28 S12 v1 v2 v3 v4 v5) ∧ (r5 = 0 → isA S12 v3 22 ∧ vp_in 0 (S12.N v3) ∧ (((lg_cmp (S12.AJ v3 ((0 : Int32).toNatClampNeg)) r10.toInt64) = 0 → wL_law_b2014 x0 L9 k28 S12 v1 v2 v3 v4 v5) ∧ (¬ ((lg_cmp (S12.AJ v3 ((0 : Int32).toNatClampNeg)) r10.toInt64) = 0) → False))))) ∧ (¬ (r13 = r5) → False)))))
set_option maxHeartbeats 4000000 in
set_option maxRecDepth 100000 in
theorem bL_law_b1935 {p : Program} {l : Launch} {e : Env} {s : State} {m : MethodId} {args : Array Value} {below : List Frame} {meth : Method} {c : Code} {G : Gw} {b9 : Nat} {Q : State → Prop} {x0 : (Nat → Int32)} {L9 : Nat} (C0 : Mx p s m c code 9 args yL_law.cls G) (Y : My meth (some .boolean)) (hl9 : l.stackTraces = false) (hX9 : va_X b9 L9 x0 s s.heap) (hbl9 : b9 < s.heap.size) (hbA9 : ¬ Ab G.b b9) (hend9 : ∀ (pc : Nat) (H : Heap) (locs : List Loc) (ls : Array Slot) (cells slots : Nat), decode code pc = .ok (.ireturn, 1) → va_S (Ab G.b) s.heap H locs → cells ≤ 603072 → slots ≤ 7198826 → W p l e room_1 s m args below meth c H locs cells slots Q (F0 m pc ls [.int 1])) {n9_28 : Nat} {k28 : Hp → Nat → Nat → Nat → Nat → Int32 → Prop} (hk28 : ∀ (S : Hp) (v1 : Nat) (v2 : Nat) (v3 : Nat) (v4 : Nat) (v5 : Int32) (H : Heap) (locs : List Loc) (ls : Array Slot) (cells slots : Nat), k28 S v1 v2 v3 v4 v5 → Ok G S H → va_S (Ab G.b) s.heap H locs → lv_has ls 9 [(0, .ref b9), (1, .ref v1), (2, .ref v2), (3, .ref v3), (4, .ref v4), (5, .int v5)] → cells + (n9_28 * 97 + 97) ≤ 603072 → slots + (n9_28 * 2225 + 2225) ≤ 7198826 → W p l e room_1 s m args below meth c H locs cells slots Q (F0 m 28 ls [])) : ∀ (S : Hp) (v1 : Nat) (v2 : Nat) (v3 : Nat) (v4 : Nat) (v5 : Int32) (H : Heap) (locs : List Loc) (ls : Array Slot) (cells slots : Nat), wL_law_b1935 x0 L9 k28 S v1 v2 v3 v4 v5 → Ok G S H → va_S (Ab G.b) s.heap H locs → lv_has ls 9 [(0, .ref b9), (1, .ref v1), (2, .ref v2), (3, .ref v3), (4, .ref v4), (5, .int v5)] → cells + (n9_28 * 97 + 101) ≤ 603072 → slots + (n9_28 * 2225 + 2249) ≤ 7198826 → W p l e room_1 s m args below meth c H locs cells slots Q (F0 m 1935 ls []) := by
  intro S v1 v2 v3 v4 v5 H locs ls cells slots h hO hS hl hcc hss
  unfold wL_law_b1935 at h
  refine lv_aload_n C0.1 C0.2.1 dL_law_1935 rfl (lv_at hl 1 rfl) ?_
  refine lv_aload_n C0.1 C0.2.1 dL_law_1936 rfl (lv_at hl 0 rfl) ?_
  refine lv_iload C0.1 C0.2.1 dL_law_1937 (lv_at hl 5 rfl) ?_
  refine lv_iconst (v := 1) C0.1 C0.2.1 dL_law_1939 (by decide) ?_
  refine lv_iadd C0.1 C0.2.1 dL_law_1940 ?_
  obtain ⟨e1, h⟩ := h
  refine va_sld C0.1 C0.2.1 hX9 hbl9 hbA9 hS e1 dL_law_1941 ?_
  refine lv_aload_n C0.1 C0.2.1 dL_law_1942 rfl (lv_at hl 0 rfl) ?_
  refine lv_iload C0.1 C0.2.1 dL_law_1943 (lv_at hl 5 rfl) ?_
  refine lv_iconst (v := 2) C0.1 C0.2.1 dL_law_1945 (by decide) ?_
  refine lv_iadd C0.1 C0.2.1 dL_law_1946 ?_
  obtain ⟨e2, h⟩ := h
  refine va_sld C0.1 C0.2.1 hX9 hbl9 hbA9 hS e2 dL_law_1947 ?_
  refine lv_i2c C0.1 C0.2.1 dL_law_1948 rfl ?_
  refine lv_aload_n C0.1 C0.2.1 dL_law_1949 rfl (lv_at hl 0 rfl) ?_
  refine lv_iload C0.1 C0.2.1 dL_law_1950 (lv_at hl 5 rfl) ?_
  refine lv_iconst (v := 3) C0.1 C0.2.1 dL_law_1952 (by decide) ?_
  refine lv_iadd C0.1 C0.2.1 dL_law_1953 ?_
  obtain ⟨e3, h⟩ := h
  refine va_sld C0.1 C0.2.1 hX9 hbl9 hbA9 hS e3 dL_law_1954 ?_
  refine lv_aload_n C0.1 C0.2.1 dL_law_1955 rfl (lv_at hl 3 rfl) ?_
  refine c_SW C0 hO hS (mL_make hl9 h) tb_1101 tb_1102 tb_73 tb_1103 hd_L_make rfl ⟨⟨by decide, by decide⟩, by show _ + 4 ≤ 603072; omega, by show _ + 24 ≤ 7198826; omega⟩ hl.1 rfl (Nat.le_of_ble_eq_true rfl) dL_law_1956 (kI (fun r5 S4 H locs h hO hS => ?_))
  change W _ _ _ _ _ _ _ _ _ _ _ _ (_ + 4) (_ + 24) _ _
  refine lv_istore C0.1 C0.2.1 dL_law_1959 hl (by decide) rfl (fun ls hl => ?_)
  refine lv_aload_n C0.1 C0.2.1 dL_law_1961 rfl (lv_at hl 3 rfl) ?_
  refine lv_aload_n C0.1 C0.2.1 dL_law_1962 rfl (lv_at hl 1 rfl) ?_
  refine lv_iload C0.1 C0.2.1 dL_law_1963 (lv_at hl 6 rfl) ?_
  refine lv_iconst (v := 1) C0.1 C0.2.1 dL_law_1965 (by decide) ?_
  refine lv_iadd C0.1 C0.2.1 dL_law_1966 ?_
  obtain ⟨e6, h⟩ := h
  refine va_sld C0.1 C0.2.1 hX9 hbl9 hbA9 hS e6 dL_law_1967 ?_
  refine lv_aload_n C0.1 C0.2.1 dL_law_1968 rfl (lv_at hl 1 rfl) ?_
  refine lv_iload C0.1 C0.2.1 dL_law_1969 (lv_at hl 6 rfl) ?_
  refine lv_iconst (v := 2) C0.1 C0.2.1 dL_law_1971 (by decide) ?_
  refine lv_iadd C0.1 C0.2.1 dL_law_1972 ?_
  obtain ⟨e7, h⟩ := h
  refine va_sld C0.1 C0.2.1 hX9 hbl9 hbA9 hS e7 dL_law_1973 ?_
  refine lv_i2c C0.1 C0.2.1 dL_law_1974 rfl ?_
  refine lv_aload_n C0.1 C0.2.1 dL_law_1975 rfl (lv_at hl 1 rfl) ?_
  refine lv_iload C0.1 C0.2.1 dL_law_1976 (lv_at hl 6 rfl) ?_
  refine lv_iconst (v := 3) C0.1 C0.2.1 dL_law_1978 (by decide) ?_
  refine lv_iadd C0.1 C0.2.1 dL_law_1979 ?_
  obtain ⟨e8, h⟩ := h
  refine va_sld C0.1 C0.2.1 hX9 hbl9 hbA9 hS e8 dL_law_1980 ?_
  obtain ⟨i11, h⟩ := h
  refine c_V C0 hO hS (mX8_make h) i11 (by decide) rfl rfl tb_1695 tb_1696 tb_1697 tb_81 tb_1698 hd_X8_make rfl ⟨⟨by decide, by decide⟩, by show _ + 0 ≤ 603072; omega, by show _ + 0 ≤ 7198826; omega⟩ hl.1 rfl (Nat.le_of_ble_eq_true rfl) dL_law_1981 (kI (fun r10 S9 H locs h hO hS => ?_))
  change W _ _ _ _ _ _ _ _ _ _ _ _ (_ + 0) (_ + 0) _ _
  refine lv_istore C0.1 C0.2.1 dL_law_1984 hl (by decide) rfl (fun ls hl => ?_)
  refine lv_aload_n C0.1 C0.2.1 dL_law_1986 rfl (lv_at hl 4 rfl) ?_
  obtain ⟨i14, h⟩ := h
  refine c_V C0 hO hS (mX8_thrown h) i14 (by decide) rfl rfl tb_1443 tb_1444 tb_1445 tb_81 tb_1446 hd_X8_thrown rfl ⟨⟨by decide, by decide⟩, by show _ + 0 ≤ 603072; omega, by show _ + 0 ≤ 7198826; omega⟩ hl.1 rfl (Nat.le_of_ble_eq_true rfl) dL_law_1987 (kI (fun r13 S12 H locs h hO hS => ?_))
  change W _ _ _ _ _ _ _ _ _ _ _ _ (_ + 0) (_ + 0) _ _
  refine lv_iload C0.1 C0.2.1 dL_law_1990 (lv_at hl 1 rfl) ?_
  refine lv_icmp_eq (tgt := 1997) C0.1 C0.2.1 dL_law_1992 (by decide) (fun c15 => ?_) (fun c15 => ?_)
  · replace h := h.1 c15
    refine lv_iload C0.1 C0.2.1 dL_law_1997 (lv_at hl 1 rfl) ?_
    refine lv_if_ne (tgt := 2014) C0.1 C0.2.1 dL_law_1999 (by decide) (fun c16 => ?_) (fun c16 => ?_)
    · replace h := h.1 c16
      exact bL_law_b2014 C0 Y hl9 hX9 hbl9 hbA9 hend9 hk28 _ _ _ _ _ _ _ _ _ _ _ h hO hS (lv_sub hl [2, 3, 4, 5, 6, 7] rfl) (by clear h; omega) (by clear h; omega)
    · replace h := h.2 c16
      refine lv_aload_n C0.1 C0.2.1 dL_law_2002 rfl (lv_at hl 5 rfl) ?_
      refine lv_iconst (v := 0) C0.1 C0.2.1 dL_law_2003 (by decide) ?_
      obtain ⟨i17, h⟩ := h
      obtain ⟨e18, h⟩ := h
      refine r_lald C0 hO i17 e18 dL_law_2004 ?_
      refine lv_iload C0.1 C0.2.1 dL_law_2005 (lv_at hl 0 rfl) ?_
      refine lv_i2l C0.1 C0.2.1 dL_law_2007 rfl ?_
      refine W.lcmp C0.1 C0.2.1 dL_law_2008 ?_
      refine lv_if_eq (tgt := 2014) C0.1 C0.2.1 dL_law_2009 (by decide) (fun c19 => ?_) (fun c19 => ?_)
      · replace h := h.1 c19
        exact bL_law_b2014 C0 Y hl9 hX9 hbl9 hbA9 hend9 hk28 _ _ _ _ _ _ _ _ _ _ _ h hO hS (lv_sub hl [2, 3, 4, 5, 6, 7] rfl) (by clear h; omega) (by clear h; omega)
      · replace h := h.2 c19
        refine lv_iconst (v := 0) C0.1 C0.2.1 dL_law_2012 (by decide) ?_
        exact h.elim
  · replace h := h.2 c15
    refine lv_iconst (v := 0) C0.1 C0.2.1 dL_law_1995 (by decide) ?_
    exact h.elim
def wL_law_b2070 (x0 : (Nat → Int32)) (L9 : Nat) (k28 : Hp → Nat → Nat → Nat → Nat → Int32 → Prop) (S : Hp) (v1 : Nat) (v2 : Nat) (v3 : Nat) (v4 : Nat) (v5 : Int32) : Prop := wL_law_b3146 x0 L9 k28 S v1 v2 v3 v4 v5
set_option maxHeartbeats 4000000 in
set_option maxRecDepth 100000 in
theorem bL_law_b2070 {p : Program} {l : Launch} {e : Env} {s : State} {m : MethodId} {args : Array Value} {below : List Frame} {meth : Method} {c : Code} {G : Gw} {b9 : Nat} {Q : State → Prop} {x0 : (Nat → Int32)} {L9 : Nat} (C0 : Mx p s m c code 9 args yL_law.cls G) (Y : My meth (some .boolean)) (hl9 : l.stackTraces = false) (hX9 : va_X b9 L9 x0 s s.heap) (hbl9 : b9 < s.heap.size) (hbA9 : ¬ Ab G.b b9) (hend9 : ∀ (pc : Nat) (H : Heap) (locs : List Loc) (ls : Array Slot) (cells slots : Nat), decode code pc = .ok (.ireturn, 1) → va_S (Ab G.b) s.heap H locs → cells ≤ 603072 → slots ≤ 7198826 → W p l e room_1 s m args below meth c H locs cells slots Q (F0 m pc ls [.int 1])) {n9_28 : Nat} {k28 : Hp → Nat → Nat → Nat → Nat → Int32 → Prop} (hk28 : ∀ (S : Hp) (v1 : Nat) (v2 : Nat) (v3 : Nat) (v4 : Nat) (v5 : Int32) (H : Heap) (locs : List Loc) (ls : Array Slot) (cells slots : Nat), k28 S v1 v2 v3 v4 v5 → Ok G S H → va_S (Ab G.b) s.heap H locs → lv_has ls 9 [(0, .ref b9), (1, .ref v1), (2, .ref v2), (3, .ref v3), (4, .ref v4), (5, .int v5)] → cells + (n9_28 * 97 + 97) ≤ 603072 → slots + (n9_28 * 2225 + 2225) ≤ 7198826 → W p l e room_1 s m args below meth c H locs cells slots Q (F0 m 28 ls [])) : ∀ (S : Hp) (v1 : Nat) (v2 : Nat) (v3 : Nat) (v4 : Nat) (v5 : Int32) (H : Heap) (locs : List Loc) (ls : Array Slot) (cells slots : Nat), wL_law_b2070 x0 L9 k28 S v1 v2 v3 v4 v5 → Ok G S H → va_S (Ab G.b) s.heap H locs → lv_has ls 9 [(0, .ref b9), (1, .ref v1), (2, .ref v2), (3, .ref v3), (4, .ref v4), (5, .int v5)] → cells + (n9_28 * 97 + 97) ≤ 603072 → slots + (n9_28 * 2225 + 2225) ≤ 7198826 → W p l e room_1 s m args below meth c H locs cells slots Q (F0 m 2070 ls []) := by
  intro S v1 v2 v3 v4 v5 H locs ls cells slots h hO hS hl hcc hss
  unfold wL_law_b2070 at h
  refine lv_goto (tgt := 3146) C0.1 C0.2.1 dL_law_2070 (by decide) ?_
  exact bL_law_b3146 C0 Y hl9 hX9 hbl9 hbA9 hend9 hk28 _ _ _ _ _ _ _ _ _ _ _ h hO hS (lv_sub hl [0, 1, 2, 3, 4, 5] rfl) (by clear h; omega) (by clear h; omega)
def wL_law_b2017 (x0 : (Nat → Int32)) (L9 : Nat) (k28 : Hp → Nat → Nat → Nat → Nat → Int32 → Prop) (S : Hp) (v1 : Nat) (v2 : Nat) (v3 : Nat) (v4 : Nat) (v5 : Int32) : Prop := vp_in (v5 + 1) L9 ∧ wL_drum S v1 (x0 (v5 + 1).toNatClampNeg) v3 (fun S2 r3 => vp_in (v5 + 1) L9 ∧ isA S2 v2 8 ∧ wX8_drum S2 v2 (x0 (v5 + 1).toNatClampNeg) (fun S5 r6 => isA S5 v2 8 ∧ wX8_thrown S5 v2 (fun S8 r9 => ((r9 = r3 → ((¬ r3 = 0 → wL_law_b2070 x0 L9 k28 S8 v1 v2 v3 v4 v5) ∧ (r3 = 0 → isA S8 v3 22 ∧ vp_in 0 (S8.N v3) ∧ (((lg_cmp (S8.AJ v3 ((0 : Int32).toNatClampNeg)) r6.toInt64) = 0 → wL_law_b2070 x0 L9 k28 S8 v1 v2 v3 v4 v5) ∧ (¬ ((lg_cmp (S8.AJ v3 ((0 : Int32).toNatClampNeg)) r6.toInt64) = 0) → False))))) ∧ (¬ (r9 = r3) → False)))))
set_option maxHeartbeats 4000000 in
set_option maxRecDepth 100000 in
theorem bL_law_b2017 {p : Program} {l : Launch} {e : Env} {s : State} {m : MethodId} {args : Array Value} {below : List Frame} {meth : Method} {c : Code} {G : Gw} {b9 : Nat} {Q : State → Prop} {x0 : (Nat → Int32)} {L9 : Nat} (C0 : Mx p s m c code 9 args yL_law.cls G) (Y : My meth (some .boolean)) (hl9 : l.stackTraces = false) (hX9 : va_X b9 L9 x0 s s.heap) (hbl9 : b9 < s.heap.size) (hbA9 : ¬ Ab G.b b9) (hend9 : ∀ (pc : Nat) (H : Heap) (locs : List Loc) (ls : Array Slot) (cells slots : Nat), decode code pc = .ok (.ireturn, 1) → va_S (Ab G.b) s.heap H locs → cells ≤ 603072 → slots ≤ 7198826 → W p l e room_1 s m args below meth c H locs cells slots Q (F0 m pc ls [.int 1])) {n9_28 : Nat} {k28 : Hp → Nat → Nat → Nat → Nat → Int32 → Prop} (hk28 : ∀ (S : Hp) (v1 : Nat) (v2 : Nat) (v3 : Nat) (v4 : Nat) (v5 : Int32) (H : Heap) (locs : List Loc) (ls : Array Slot) (cells slots : Nat), k28 S v1 v2 v3 v4 v5 → Ok G S H → va_S (Ab G.b) s.heap H locs → lv_has ls 9 [(0, .ref b9), (1, .ref v1), (2, .ref v2), (3, .ref v3), (4, .ref v4), (5, .int v5)] → cells + (n9_28 * 97 + 97) ≤ 603072 → slots + (n9_28 * 2225 + 2225) ≤ 7198826 → W p l e room_1 s m args below meth c H locs cells slots Q (F0 m 28 ls [])) : ∀ (S : Hp) (v1 : Nat) (v2 : Nat) (v3 : Nat) (v4 : Nat) (v5 : Int32) (H : Heap) (locs : List Loc) (ls : Array Slot) (cells slots : Nat), wL_law_b2017 x0 L9 k28 S v1 v2 v3 v4 v5 → Ok G S H → va_S (Ab G.b) s.heap H locs → lv_has ls 9 [(0, .ref b9), (1, .ref v1), (2, .ref v2), (3, .ref v3), (4, .ref v4), (5, .int v5)] → cells + (n9_28 * 97 + 102) ≤ 603072 → slots + (n9_28 * 2225 + 2290) ≤ 7198826 → W p l e room_1 s m args below meth c H locs cells slots Q (F0 m 2017 ls []) := by
  intro S v1 v2 v3 v4 v5 H locs ls cells slots h hO hS hl hcc hss
  unfold wL_law_b2017 at h
  refine lv_aload_n C0.1 C0.2.1 dL_law_2017 rfl (lv_at hl 1 rfl) ?_
  refine lv_aload_n C0.1 C0.2.1 dL_law_2018 rfl (lv_at hl 0 rfl) ?_
  refine lv_iload C0.1 C0.2.1 dL_law_2019 (lv_at hl 5 rfl) ?_
  refine lv_iconst (v := 1) C0.1 C0.2.1 dL_law_2021 (by decide) ?_
  refine lv_iadd C0.1 C0.2.1 dL_law_2022 ?_
  obtain ⟨e1, h⟩ := h
  refine va_sld C0.1 C0.2.1 hX9 hbl9 hbA9 hS e1 dL_law_2023 ?_
  refine lv_aload_n C0.1 C0.2.1 dL_law_2024 rfl (lv_at hl 3 rfl) ?_
  refine c_SW C0 hO hS (mL_drum hl9 h) tb_1128 tb_1129 tb_73 tb_1130 hd_L_drum rfl ⟨⟨by decide, by decide⟩, by show _ + 5 ≤ 603072; omega, by show _ + 65 ≤ 7198826; omega⟩ hl.1 rfl (Nat.le_of_ble_eq_true rfl) dL_law_2025 (kI (fun r3 S2 H locs h hO hS => ?_))
  change W _ _ _ _ _ _ _ _ _ _ _ _ (_ + 5) (_ + 65) _ _
  refine lv_istore C0.1 C0.2.1 dL_law_2028 hl (by decide) rfl (fun ls hl => ?_)
  refine lv_aload_n C0.1 C0.2.1 dL_law_2030 rfl (lv_at hl 3 rfl) ?_
  refine lv_aload_n C0.1 C0.2.1 dL_law_2031 rfl (lv_at hl 1 rfl) ?_
  refine lv_iload C0.1 C0.2.1 dL_law_2032 (lv_at hl 6 rfl) ?_
  refine lv_iconst (v := 1) C0.1 C0.2.1 dL_law_2034 (by decide) ?_
  refine lv_iadd C0.1 C0.2.1 dL_law_2035 ?_
  obtain ⟨e4, h⟩ := h
  refine va_sld C0.1 C0.2.1 hX9 hbl9 hbA9 hS e4 dL_law_2036 ?_
  obtain ⟨i7, h⟩ := h
  refine c_V C0 hO hS (mX8_drum h) i7 (by decide) rfl rfl tb_1699 tb_1700 tb_1701 tb_81 tb_1702 hd_X8_drum rfl ⟨⟨by decide, by decide⟩, by show _ + 0 ≤ 603072; omega, by show _ + 0 ≤ 7198826; omega⟩ hl.1 rfl (Nat.le_of_ble_eq_true rfl) dL_law_2037 (kI (fun r6 S5 H locs h hO hS => ?_))
  change W _ _ _ _ _ _ _ _ _ _ _ _ (_ + 0) (_ + 0) _ _
  refine lv_istore C0.1 C0.2.1 dL_law_2040 hl (by decide) rfl (fun ls hl => ?_)
  refine lv_aload_n C0.1 C0.2.1 dL_law_2042 rfl (lv_at hl 4 rfl) ?_
  obtain ⟨i10, h⟩ := h
  refine c_V C0 hO hS (mX8_thrown h) i10 (by decide) rfl rfl tb_1443 tb_1444 tb_1445 tb_81 tb_1446 hd_X8_thrown rfl ⟨⟨by decide, by decide⟩, by show _ + 0 ≤ 603072; omega, by show _ + 0 ≤ 7198826; omega⟩ hl.1 rfl (Nat.le_of_ble_eq_true rfl) dL_law_2043 (kI (fun r9 S8 H locs h hO hS => ?_))
  change W _ _ _ _ _ _ _ _ _ _ _ _ (_ + 0) (_ + 0) _ _
  refine lv_iload C0.1 C0.2.1 dL_law_2046 (lv_at hl 1 rfl) ?_
  refine lv_icmp_eq (tgt := 2053) C0.1 C0.2.1 dL_law_2048 (by decide) (fun c11 => ?_) (fun c11 => ?_)
  · replace h := h.1 c11
    refine lv_iload C0.1 C0.2.1 dL_law_2053 (lv_at hl 1 rfl) ?_
    refine lv_if_ne (tgt := 2070) C0.1 C0.2.1 dL_law_2055 (by decide) (fun c12 => ?_) (fun c12 => ?_)
    · replace h := h.1 c12
      exact bL_law_b2070 C0 Y hl9 hX9 hbl9 hbA9 hend9 hk28 _ _ _ _ _ _ _ _ _ _ _ h hO hS (lv_sub hl [2, 3, 4, 5, 6, 7] rfl) (by clear h; omega) (by clear h; omega)
    · replace h := h.2 c12
      refine lv_aload_n C0.1 C0.2.1 dL_law_2058 rfl (lv_at hl 5 rfl) ?_
      refine lv_iconst (v := 0) C0.1 C0.2.1 dL_law_2059 (by decide) ?_
      obtain ⟨i13, h⟩ := h
      obtain ⟨e14, h⟩ := h
      refine r_lald C0 hO i13 e14 dL_law_2060 ?_
      refine lv_iload C0.1 C0.2.1 dL_law_2061 (lv_at hl 0 rfl) ?_
      refine lv_i2l C0.1 C0.2.1 dL_law_2063 rfl ?_
      refine W.lcmp C0.1 C0.2.1 dL_law_2064 ?_
      refine lv_if_eq (tgt := 2070) C0.1 C0.2.1 dL_law_2065 (by decide) (fun c15 => ?_) (fun c15 => ?_)
      · replace h := h.1 c15
        exact bL_law_b2070 C0 Y hl9 hX9 hbl9 hbA9 hend9 hk28 _ _ _ _ _ _ _ _ _ _ _ h hO hS (lv_sub hl [2, 3, 4, 5, 6, 7] rfl) (by clear h; omega) (by clear h; omega)
      · replace h := h.2 c15
        refine lv_iconst (v := 0) C0.1 C0.2.1 dL_law_2068 (by decide) ?_
        exact h.elim
  · replace h := h.2 c11
    refine lv_iconst (v := 0) C0.1 C0.2.1 dL_law_2051 (by decide) ?_
    exact h.elim
def wL_law_b2185 (x0 : (Nat → Int32)) (L9 : Nat) (k28 : Hp → Nat → Nat → Nat → Nat → Int32 → Prop) (S : Hp) (v1 : Nat) (v2 : Nat) (v3 : Nat) (v4 : Nat) (v5 : Int32) : Prop := wL_law_b3146 x0 L9 k28 S v1 v2 v3 v4 v5
set_option maxHeartbeats 4000000 in
set_option maxRecDepth 100000 in
theorem bL_law_b2185 {p : Program} {l : Launch} {e : Env} {s : State} {m : MethodId} {args : Array Value} {below : List Frame} {meth : Method} {c : Code} {G : Gw} {b9 : Nat} {Q : State → Prop} {x0 : (Nat → Int32)} {L9 : Nat} (C0 : Mx p s m c code 9 args yL_law.cls G) (Y : My meth (some .boolean)) (hl9 : l.stackTraces = false) (hX9 : va_X b9 L9 x0 s s.heap) (hbl9 : b9 < s.heap.size) (hbA9 : ¬ Ab G.b b9) (hend9 : ∀ (pc : Nat) (H : Heap) (locs : List Loc) (ls : Array Slot) (cells slots : Nat), decode code pc = .ok (.ireturn, 1) → va_S (Ab G.b) s.heap H locs → cells ≤ 603072 → slots ≤ 7198826 → W p l e room_1 s m args below meth c H locs cells slots Q (F0 m pc ls [.int 1])) {n9_28 : Nat} {k28 : Hp → Nat → Nat → Nat → Nat → Int32 → Prop} (hk28 : ∀ (S : Hp) (v1 : Nat) (v2 : Nat) (v3 : Nat) (v4 : Nat) (v5 : Int32) (H : Heap) (locs : List Loc) (ls : Array Slot) (cells slots : Nat), k28 S v1 v2 v3 v4 v5 → Ok G S H → va_S (Ab G.b) s.heap H locs → lv_has ls 9 [(0, .ref b9), (1, .ref v1), (2, .ref v2), (3, .ref v3), (4, .ref v4), (5, .int v5)] → cells + (n9_28 * 97 + 97) ≤ 603072 → slots + (n9_28 * 2225 + 2225) ≤ 7198826 → W p l e room_1 s m args below meth c H locs cells slots Q (F0 m 28 ls [])) : ∀ (S : Hp) (v1 : Nat) (v2 : Nat) (v3 : Nat) (v4 : Nat) (v5 : Int32) (H : Heap) (locs : List Loc) (ls : Array Slot) (cells slots : Nat), wL_law_b2185 x0 L9 k28 S v1 v2 v3 v4 v5 → Ok G S H → va_S (Ab G.b) s.heap H locs → lv_has ls 9 [(0, .ref b9), (1, .ref v1), (2, .ref v2), (3, .ref v3), (4, .ref v4), (5, .int v5)] → cells + (n9_28 * 97 + 97) ≤ 603072 → slots + (n9_28 * 2225 + 2225) ≤ 7198826 → W p l e room_1 s m args below meth c H locs cells slots Q (F0 m 2185 ls []) := by
  intro S v1 v2 v3 v4 v5 H locs ls cells slots h hO hS hl hcc hss
  unfold wL_law_b2185 at h
  refine lv_goto (tgt := 3146) C0.1 C0.2.1 dL_law_2185 (by decide) ?_
  exact bL_law_b3146 C0 Y hl9 hX9 hbl9 hbA9 hend9 hk28 _ _ _ _ _ _ _ _ _ _ _ h hO hS (lv_sub hl [0, 1, 2, 3, 4, 5] rfl) (by clear h; omega) (by clear h; omega)
def wL_law_b2179 (x0 : (Nat → Int32)) (L9 : Nat) (k28 : Hp → Nat → Nat → Nat → Nat → Int32 → Prop) (S : Hp) (v1 : Nat) (v2 : Nat) (v3 : Nat) (v4 : Nat) (v5 : Int32) (z0 : Int64) (z1 : Int64) : Prop := (((lg_cmp z0 z1) = 0 → wL_law_b2185 x0 L9 k28 S v1 v2 v3 v4 v5) ∧ (¬ ((lg_cmp z0 z1) = 0) → False))
set_option maxHeartbeats 4000000 in
set_option maxRecDepth 100000 in
theorem bL_law_b2179 {p : Program} {l : Launch} {e : Env} {s : State} {m : MethodId} {args : Array Value} {below : List Frame} {meth : Method} {c : Code} {G : Gw} {b9 : Nat} {Q : State → Prop} {x0 : (Nat → Int32)} {L9 : Nat} (C0 : Mx p s m c code 9 args yL_law.cls G) (Y : My meth (some .boolean)) (hl9 : l.stackTraces = false) (hX9 : va_X b9 L9 x0 s s.heap) (hbl9 : b9 < s.heap.size) (hbA9 : ¬ Ab G.b b9) (hend9 : ∀ (pc : Nat) (H : Heap) (locs : List Loc) (ls : Array Slot) (cells slots : Nat), decode code pc = .ok (.ireturn, 1) → va_S (Ab G.b) s.heap H locs → cells ≤ 603072 → slots ≤ 7198826 → W p l e room_1 s m args below meth c H locs cells slots Q (F0 m pc ls [.int 1])) {n9_28 : Nat} {k28 : Hp → Nat → Nat → Nat → Nat → Int32 → Prop} (hk28 : ∀ (S : Hp) (v1 : Nat) (v2 : Nat) (v3 : Nat) (v4 : Nat) (v5 : Int32) (H : Heap) (locs : List Loc) (ls : Array Slot) (cells slots : Nat), k28 S v1 v2 v3 v4 v5 → Ok G S H → va_S (Ab G.b) s.heap H locs → lv_has ls 9 [(0, .ref b9), (1, .ref v1), (2, .ref v2), (3, .ref v3), (4, .ref v4), (5, .int v5)] → cells + (n9_28 * 97 + 97) ≤ 603072 → slots + (n9_28 * 2225 + 2225) ≤ 7198826 → W p l e room_1 s m args below meth c H locs cells slots Q (F0 m 28 ls [])) : ∀ (S : Hp) (v1 : Nat) (v2 : Nat) (v3 : Nat) (v4 : Nat) (v5 : Int32) (z0 : Int64) (z1 : Int64) (H : Heap) (locs : List Loc) (ls : Array Slot) (cells slots : Nat), wL_law_b2179 x0 L9 k28 S v1 v2 v3 v4 v5 z0 z1 → Ok G S H → va_S (Ab G.b) s.heap H locs → lv_has ls 9 [(0, .ref b9), (1, .ref v1), (2, .ref v2), (3, .ref v3), (4, .ref v4), (5, .int v5)] → cells + (n9_28 * 97 + 97) ≤ 603072 → slots + (n9_28 * 2225 + 2225) ≤ 7198826 → W p l e room_1 s m args below meth c H locs cells slots Q (F0 m 2179 ls [.long z1, .long z0]) := by
  intro S v1 v2 v3 v4 v5 z0 z1 H locs ls cells slots h hO hS hl hcc hss
  unfold wL_law_b2179 at h
  refine W.lcmp C0.1 C0.2.1 dL_law_2179 ?_
  refine lv_if_eq (tgt := 2185) C0.1 C0.2.1 dL_law_2180 (by decide) (fun c1 => ?_) (fun c1 => ?_)
  · replace h := h.1 c1
    exact bL_law_b2185 C0 Y hl9 hX9 hbl9 hbA9 hend9 hk28 _ _ _ _ _ _ _ _ _ _ _ h hO hS (lv_sub hl [0, 1, 2, 3, 4, 5] rfl) (by clear h; omega) (by clear h; omega)
  · replace h := h.2 c1
    refine lv_iconst (v := 0) C0.1 C0.2.1 dL_law_2183 (by decide) ?_
    exact h.elim
def wL_law_b2145 (x0 : (Nat → Int32)) (L9 : Nat) (k28 : Hp → Nat → Nat → Nat → Nat → Int32 → Prop) (S : Hp) (v1 : Nat) (v2 : Nat) (v3 : Nat) (v4 : Nat) (v5 : Int32) (v6 : Int32) (z0 : Nat) (z1 : Int32) (z2 : Int32) (z3 : Int32) (z4 : Int32) : Prop := isA S z0 8 ∧ wX8_pin S z0 z1 z2 z3 z4 (fun S1 r2 => isA S1 v2 8 ∧ wX8_thrown S1 v2 (fun S4 r5 => ((r5 = v6 → ((¬ v6 = 0 → wL_law_b2185 x0 L9 k28 S4 v1 v2 v3 v4 v5) ∧ (v6 = 0 → isA S4 v3 22 ∧ vp_in 0 (S4.N v3) ∧ ((r2 = 0 → wL_law_b2179 x0 L9 k28 S4 v1 v2 v3 v4 v5 (S4.AJ v3 ((0 : Int32).toNatClampNeg)) 0) ∧ (¬ (r2 = 0) → wL_law_b2179 x0 L9 k28 S4 v1 v2 v3 v4 v5 (S4.AJ v3 ((0 : Int32).toNatClampNeg)) 1))))) ∧ (¬ (r5 = v6) → False))))
set_option maxHeartbeats 4000000 in
set_option maxRecDepth 100000 in
theorem bL_law_b2145 {p : Program} {l : Launch} {e : Env} {s : State} {m : MethodId} {args : Array Value} {below : List Frame} {meth : Method} {c : Code} {G : Gw} {b9 : Nat} {Q : State → Prop} {x0 : (Nat → Int32)} {L9 : Nat} (C0 : Mx p s m c code 9 args yL_law.cls G) (Y : My meth (some .boolean)) (hl9 : l.stackTraces = false) (hX9 : va_X b9 L9 x0 s s.heap) (hbl9 : b9 < s.heap.size) (hbA9 : ¬ Ab G.b b9) (hend9 : ∀ (pc : Nat) (H : Heap) (locs : List Loc) (ls : Array Slot) (cells slots : Nat), decode code pc = .ok (.ireturn, 1) → va_S (Ab G.b) s.heap H locs → cells ≤ 603072 → slots ≤ 7198826 → W p l e room_1 s m args below meth c H locs cells slots Q (F0 m pc ls [.int 1])) {n9_28 : Nat} {k28 : Hp → Nat → Nat → Nat → Nat → Int32 → Prop} (hk28 : ∀ (S : Hp) (v1 : Nat) (v2 : Nat) (v3 : Nat) (v4 : Nat) (v5 : Int32) (H : Heap) (locs : List Loc) (ls : Array Slot) (cells slots : Nat), k28 S v1 v2 v3 v4 v5 → Ok G S H → va_S (Ab G.b) s.heap H locs → lv_has ls 9 [(0, .ref b9), (1, .ref v1), (2, .ref v2), (3, .ref v3), (4, .ref v4), (5, .int v5)] → cells + (n9_28 * 97 + 97) ≤ 603072 → slots + (n9_28 * 2225 + 2225) ≤ 7198826 → W p l e room_1 s m args below meth c H locs cells slots Q (F0 m 28 ls [])) : ∀ (S : Hp) (v1 : Nat) (v2 : Nat) (v3 : Nat) (v4 : Nat) (v5 : Int32) (v6 : Int32) (z0 : Nat) (z1 : Int32) (z2 : Int32) (z3 : Int32) (z4 : Int32) (H : Heap) (locs : List Loc) (ls : Array Slot) (cells slots : Nat), wL_law_b2145 x0 L9 k28 S v1 v2 v3 v4 v5 v6 z0 z1 z2 z3 z4 → Ok G S H → va_S (Ab G.b) s.heap H locs → lv_has ls 9 [(0, .ref b9), (1, .ref v1), (2, .ref v2), (3, .ref v3), (4, .ref v4), (5, .int v5), (6, .int v6)] → cells + (n9_28 * 97 + 97) ≤ 603072 → slots + (n9_28 * 2225 + 2225) ≤ 7198826 → W p l e room_1 s m args below meth c H locs cells slots Q (F0 m 2145 ls [.int z4, .int z3, .int z2, .int z1, .ref z0]) := by
  intro S v1 v2 v3 v4 v5 v6 z0 z1 z2 z3 z4 H locs ls cells slots h hO hS hl hcc hss
  unfold wL_law_b2145 at h
  obtain ⟨i3, h⟩ := h
  refine c_V C0 hO hS (mX8_pin h) i3 (by decide) rfl rfl tb_1703 tb_1704 tb_1705 tb_81 tb_1706 hd_X8_pin rfl ⟨⟨by decide, by decide⟩, by show _ + 0 ≤ 603072; omega, by show _ + 0 ≤ 7198826; omega⟩ hl.1 rfl (Nat.le_of_ble_eq_true rfl) dL_law_2145 (kI (fun r2 S1 H locs h hO hS => ?_))
  change W _ _ _ _ _ _ _ _ _ _ _ _ (_ + 0) (_ + 0) _ _
  refine lv_istore C0.1 C0.2.1 dL_law_2148 hl (by decide) rfl (fun ls hl => ?_)
  refine lv_aload_n C0.1 C0.2.1 dL_law_2150 rfl (lv_at hl 3 rfl) ?_
  obtain ⟨i6, h⟩ := h
  refine c_V C0 hO hS (mX8_thrown h) i6 (by decide) rfl rfl tb_1443 tb_1444 tb_1445 tb_81 tb_1446 hd_X8_thrown rfl ⟨⟨by decide, by decide⟩, by show _ + 0 ≤ 603072; omega, by show _ + 0 ≤ 7198826; omega⟩ hl.1 rfl (Nat.le_of_ble_eq_true rfl) dL_law_2151 (kI (fun r5 S4 H locs h hO hS => ?_))
  change W _ _ _ _ _ _ _ _ _ _ _ _ (_ + 0) (_ + 0) _ _
  refine lv_iload C0.1 C0.2.1 dL_law_2154 (lv_at hl 7 rfl) ?_
  refine lv_icmp_eq (tgt := 2161) C0.1 C0.2.1 dL_law_2156 (by decide) (fun c7 => ?_) (fun c7 => ?_)
  · replace h := h.1 c7
    refine lv_iload C0.1 C0.2.1 dL_law_2161 (lv_at hl 7 rfl) ?_
    refine lv_if_ne (tgt := 2185) C0.1 C0.2.1 dL_law_2163 (by decide) (fun c8 => ?_) (fun c8 => ?_)
    · replace h := h.1 c8
      exact bL_law_b2185 C0 Y hl9 hX9 hbl9 hbA9 hend9 hk28 _ _ _ _ _ _ _ _ _ _ _ h hO hS (lv_sub hl [1, 2, 3, 4, 5, 6] rfl) (by clear h; omega) (by clear h; omega)
    · replace h := h.2 c8
      refine lv_aload_n C0.1 C0.2.1 dL_law_2166 rfl (lv_at hl 4 rfl) ?_
      refine lv_iconst (v := 0) C0.1 C0.2.1 dL_law_2167 (by decide) ?_
      obtain ⟨i9, h⟩ := h
      obtain ⟨e10, h⟩ := h
      refine r_lald C0 hO i9 e10 dL_law_2168 ?_
      refine lv_iload C0.1 C0.2.1 dL_law_2169 (lv_at hl 0 rfl) ?_
      refine lv_if_eq (tgt := 2178) C0.1 C0.2.1 dL_law_2171 (by decide) (fun c11 => ?_) (fun c11 => ?_)
      · replace h := h.1 c11
        refine lv_lconst (v := 0) C0.1 C0.2.1 dL_law_2178 (by decide) ?_
        exact bL_law_b2179 C0 Y hl9 hX9 hbl9 hbA9 hend9 hk28 _ _ _ _ _ _ _ _ _ _ _ _ _ h hO hS (lv_sub hl [1, 2, 3, 4, 5, 6] rfl) (by clear h; omega) (by clear h; omega)
      · replace h := h.2 c11
        refine lv_lconst (v := 1) C0.1 C0.2.1 dL_law_2174 (by decide) ?_
        refine lv_goto (tgt := 2179) C0.1 C0.2.1 dL_law_2175 (by decide) ?_
        exact bL_law_b2179 C0 Y hl9 hX9 hbl9 hbA9 hend9 hk28 _ _ _ _ _ _ _ _ _ _ _ _ _ h hO hS (lv_sub hl [1, 2, 3, 4, 5, 6] rfl) (by clear h; omega) (by clear h; omega)
  · replace h := h.2 c7
    refine lv_iconst (v := 0) C0.1 C0.2.1 dL_law_2159 (by decide) ?_
    exact h.elim
def wL_law_b2106 (x0 : (Nat → Int32)) (L9 : Nat) (k28 : Hp → Nat → Nat → Nat → Nat → Int32 → Prop) (S : Hp) (v1 : Nat) (v2 : Nat) (v3 : Nat) (v4 : Nat) (v5 : Int32) (z0 : Nat) (z1 : Int32) (z2 : Int32) (z3 : Int32) (z4 : Int32) : Prop := wL_pin S z0 z1 z2 z3 z4 v3 (fun S1 r2 => vp_in (v5 + 1) L9 ∧ vp_in (v5 + 2) L9 ∧ vp_in (v5 + 3) L9 ∧ vp_in (v5 + 4) L9 ∧ (((x0 (v5 + 4).toNatClampNeg) = 0 → wL_law_b2145 x0 L9 k28 S1 v1 v2 v3 v4 v5 r2 v2 (x0 (v5 + 1).toNatClampNeg) (x0 (v5 + 2).toNatClampNeg) (x0 (v5 + 3).toNatClampNeg) 0) ∧ (¬ ((x0 (v5 + 4).toNatClampNeg) = 0) → wL_law_b2145 x0 L9 k28 S1 v1 v2 v3 v4 v5 r2 v2 (x0 (v5 + 1).toNatClampNeg) (x0 (v5 + 2).toNatClampNeg) (x0 (v5 + 3).toNatClampNeg) 1)))
set_option maxHeartbeats 4000000 in
set_option maxRecDepth 100000 in
theorem bL_law_b2106 {p : Program} {l : Launch} {e : Env} {s : State} {m : MethodId} {args : Array Value} {below : List Frame} {meth : Method} {c : Code} {G : Gw} {b9 : Nat} {Q : State → Prop} {x0 : (Nat → Int32)} {L9 : Nat} (C0 : Mx p s m c code 9 args yL_law.cls G) (Y : My meth (some .boolean)) (hl9 : l.stackTraces = false) (hX9 : va_X b9 L9 x0 s s.heap) (hbl9 : b9 < s.heap.size) (hbA9 : ¬ Ab G.b b9) (hend9 : ∀ (pc : Nat) (H : Heap) (locs : List Loc) (ls : Array Slot) (cells slots : Nat), decode code pc = .ok (.ireturn, 1) → va_S (Ab G.b) s.heap H locs → cells ≤ 603072 → slots ≤ 7198826 → W p l e room_1 s m args below meth c H locs cells slots Q (F0 m pc ls [.int 1])) {n9_28 : Nat} {k28 : Hp → Nat → Nat → Nat → Nat → Int32 → Prop} (hk28 : ∀ (S : Hp) (v1 : Nat) (v2 : Nat) (v3 : Nat) (v4 : Nat) (v5 : Int32) (H : Heap) (locs : List Loc) (ls : Array Slot) (cells slots : Nat), k28 S v1 v2 v3 v4 v5 → Ok G S H → va_S (Ab G.b) s.heap H locs → lv_has ls 9 [(0, .ref b9), (1, .ref v1), (2, .ref v2), (3, .ref v3), (4, .ref v4), (5, .int v5)] → cells + (n9_28 * 97 + 97) ≤ 603072 → slots + (n9_28 * 2225 + 2225) ≤ 7198826 → W p l e room_1 s m args below meth c H locs cells slots Q (F0 m 28 ls [])) : ∀ (S : Hp) (v1 : Nat) (v2 : Nat) (v3 : Nat) (v4 : Nat) (v5 : Int32) (z0 : Nat) (z1 : Int32) (z2 : Int32) (z3 : Int32) (z4 : Int32) (H : Heap) (locs : List Loc) (ls : Array Slot) (cells slots : Nat), wL_law_b2106 x0 L9 k28 S v1 v2 v3 v4 v5 z0 z1 z2 z3 z4 → Ok G S H → va_S (Ab G.b) s.heap H locs → lv_has ls 9 [(0, .ref b9), (1, .ref v1), (2, .ref v2), (3, .ref v3), (4, .ref v4), (5, .int v5)] → cells + (n9_28 * 97 + 100) ≤ 603072 → slots + (n9_28 * 2225 + 2243) ≤ 7198826 → W p l e room_1 s m args below meth c H locs cells slots Q (F0 m 2106 ls [.int z4, .int z3, .int z2, .int z1, .ref z0]) := by
  intro S v1 v2 v3 v4 v5 z0 z1 z2 z3 z4 H locs ls cells slots h hO hS hl hcc hss
  unfold wL_law_b2106 at h
  refine lv_aload_n C0.1 C0.2.1 dL_law_2106 rfl (lv_at hl 3 rfl) ?_
  refine c_SW C0 hO hS (mL_pin hl9 h) tb_1152 tb_1153 tb_73 tb_1154 hd_L_pin rfl ⟨⟨by decide, by decide⟩, by show _ + 3 ≤ 603072; omega, by show _ + 18 ≤ 7198826; omega⟩ hl.1 rfl (Nat.le_of_ble_eq_true rfl) dL_law_2107 (kI (fun r2 S1 H locs h hO hS => ?_))
  change W _ _ _ _ _ _ _ _ _ _ _ _ (_ + 3) (_ + 18) _ _
  refine lv_istore C0.1 C0.2.1 dL_law_2110 hl (by decide) rfl (fun ls hl => ?_)
  refine lv_aload_n C0.1 C0.2.1 dL_law_2112 rfl (lv_at hl 3 rfl) ?_
  refine lv_aload_n C0.1 C0.2.1 dL_law_2113 rfl (lv_at hl 1 rfl) ?_
  refine lv_iload C0.1 C0.2.1 dL_law_2114 (lv_at hl 6 rfl) ?_
  refine lv_iconst (v := 1) C0.1 C0.2.1 dL_law_2116 (by decide) ?_
  refine lv_iadd C0.1 C0.2.1 dL_law_2117 ?_
  obtain ⟨e3, h⟩ := h
  refine va_sld C0.1 C0.2.1 hX9 hbl9 hbA9 hS e3 dL_law_2118 ?_
  refine lv_aload_n C0.1 C0.2.1 dL_law_2119 rfl (lv_at hl 1 rfl) ?_
  refine lv_iload C0.1 C0.2.1 dL_law_2120 (lv_at hl 6 rfl) ?_
  refine lv_iconst (v := 2) C0.1 C0.2.1 dL_law_2122 (by decide) ?_
  refine lv_iadd C0.1 C0.2.1 dL_law_2123 ?_
  obtain ⟨e4, h⟩ := h
  refine va_sld C0.1 C0.2.1 hX9 hbl9 hbA9 hS e4 dL_law_2124 ?_
  refine lv_aload_n C0.1 C0.2.1 dL_law_2125 rfl (lv_at hl 1 rfl) ?_
  refine lv_iload C0.1 C0.2.1 dL_law_2126 (lv_at hl 6 rfl) ?_
  refine lv_iconst (v := 3) C0.1 C0.2.1 dL_law_2128 (by decide) ?_
  refine lv_iadd C0.1 C0.2.1 dL_law_2129 ?_
  obtain ⟨e5, h⟩ := h
  refine va_sld C0.1 C0.2.1 hX9 hbl9 hbA9 hS e5 dL_law_2130 ?_
  refine lv_aload_n C0.1 C0.2.1 dL_law_2131 rfl (lv_at hl 1 rfl) ?_
  refine lv_iload C0.1 C0.2.1 dL_law_2132 (lv_at hl 6 rfl) ?_
  refine lv_iconst (v := 4) C0.1 C0.2.1 dL_law_2134 (by decide) ?_
  refine lv_iadd C0.1 C0.2.1 dL_law_2135 ?_
  obtain ⟨e6, h⟩ := h
  refine va_sld C0.1 C0.2.1 hX9 hbl9 hbA9 hS e6 dL_law_2136 ?_
  refine lv_if_eq (tgt := 2144) C0.1 C0.2.1 dL_law_2137 (by decide) (fun c7 => ?_) (fun c7 => ?_)
  · replace h := h.1 c7
    refine lv_iconst (v := 0) C0.1 C0.2.1 dL_law_2144 (by decide) ?_
    exact bL_law_b2145 C0 Y hl9 hX9 hbl9 hbA9 hend9 hk28 _ _ _ _ _ _ _ _ _ _ _ _ _ _ _ _ _ h hO hS (lv_sub hl [1, 2, 3, 4, 5, 6, 0] rfl) (by clear h; omega) (by clear h; omega)
  · replace h := h.2 c7
    refine lv_iconst (v := 1) C0.1 C0.2.1 dL_law_2140 (by decide) ?_
    refine lv_goto (tgt := 2145) C0.1 C0.2.1 dL_law_2141 (by decide) ?_
    exact bL_law_b2145 C0 Y hl9 hX9 hbl9 hbA9 hend9 hk28 _ _ _ _ _ _ _ _ _ _ _ _ _ _ _ _ _ h hO hS (lv_sub hl [1, 2, 3, 4, 5, 6, 0] rfl) (by clear h; omega) (by clear h; omega)
def wL_law_b2073 (x0 : (Nat → Int32)) (L9 : Nat) (k28 : Hp → Nat → Nat → Nat → Nat → Int32 → Prop) (S : Hp) (v1 : Nat) (v2 : Nat) (v3 : Nat) (v4 : Nat) (v5 : Int32) : Prop := vp_in (v5 + 1) L9 ∧ vp_in (v5 + 2) L9 ∧ vp_in (v5 + 3) L9 ∧ vp_in (v5 + 4) L9 ∧ (((x0 (v5 + 4).toNatClampNeg) = 0 → wL_law_b2106 x0 L9 k28 S v1 v2 v3 v4 v5 v1 (x0 (v5 + 1).toNatClampNeg) (x0 (v5 + 2).toNatClampNeg) (x0 (v5 + 3).toNatClampNeg) 0) ∧ (¬ ((x0 (v5 + 4).toNatClampNeg) = 0) → wL_law_b2106 x0 L9 k28 S v1 v2 v3 v4 v5 v1 (x0 (v5 + 1).toNatClampNeg) (x0 (v5 + 2).toNatClampNeg) (x0 (v5 + 3).toNatClampNeg) 1))
set_option maxHeartbeats 4000000 in
set_option maxRecDepth 100000 in
theorem bL_law_b2073 {p : Program} {l : Launch} {e : Env} {s : State} {m : MethodId} {args : Array Value} {below : List Frame} {meth : Method} {c : Code} {G : Gw} {b9 : Nat} {Q : State → Prop} {x0 : (Nat → Int32)} {L9 : Nat} (C0 : Mx p s m c code 9 args yL_law.cls G) (Y : My meth (some .boolean)) (hl9 : l.stackTraces = false) (hX9 : va_X b9 L9 x0 s s.heap) (hbl9 : b9 < s.heap.size) (hbA9 : ¬ Ab G.b b9) (hend9 : ∀ (pc : Nat) (H : Heap) (locs : List Loc) (ls : Array Slot) (cells slots : Nat), decode code pc = .ok (.ireturn, 1) → va_S (Ab G.b) s.heap H locs → cells ≤ 603072 → slots ≤ 7198826 → W p l e room_1 s m args below meth c H locs cells slots Q (F0 m pc ls [.int 1])) {n9_28 : Nat} {k28 : Hp → Nat → Nat → Nat → Nat → Int32 → Prop} (hk28 : ∀ (S : Hp) (v1 : Nat) (v2 : Nat) (v3 : Nat) (v4 : Nat) (v5 : Int32) (H : Heap) (locs : List Loc) (ls : Array Slot) (cells slots : Nat), k28 S v1 v2 v3 v4 v5 → Ok G S H → va_S (Ab G.b) s.heap H locs → lv_has ls 9 [(0, .ref b9), (1, .ref v1), (2, .ref v2), (3, .ref v3), (4, .ref v4), (5, .int v5)] → cells + (n9_28 * 97 + 97) ≤ 603072 → slots + (n9_28 * 2225 + 2225) ≤ 7198826 → W p l e room_1 s m args below meth c H locs cells slots Q (F0 m 28 ls [])) : ∀ (S : Hp) (v1 : Nat) (v2 : Nat) (v3 : Nat) (v4 : Nat) (v5 : Int32) (H : Heap) (locs : List Loc) (ls : Array Slot) (cells slots : Nat), wL_law_b2073 x0 L9 k28 S v1 v2 v3 v4 v5 → Ok G S H → va_S (Ab G.b) s.heap H locs → lv_has ls 9 [(0, .ref b9), (1, .ref v1), (2, .ref v2), (3, .ref v3), (4, .ref v4), (5, .int v5)] → cells + (n9_28 * 97 + 100) ≤ 603072 → slots + (n9_28 * 2225 + 2243) ≤ 7198826 → W p l e room_1 s m args below meth c H locs cells slots Q (F0 m 2073 ls []) := by
  intro S v1 v2 v3 v4 v5 H locs ls cells slots h hO hS hl hcc hss
  unfold wL_law_b2073 at h
  refine lv_aload_n C0.1 C0.2.1 dL_law_2073 rfl (lv_at hl 1 rfl) ?_
  refine lv_aload_n C0.1 C0.2.1 dL_law_2074 rfl (lv_at hl 0 rfl) ?_
  refine lv_iload C0.1 C0.2.1 dL_law_2075 (lv_at hl 5 rfl) ?_
  refine lv_iconst (v := 1) C0.1 C0.2.1 dL_law_2077 (by decide) ?_
  refine lv_iadd C0.1 C0.2.1 dL_law_2078 ?_
  obtain ⟨e1, h⟩ := h
  refine va_sld C0.1 C0.2.1 hX9 hbl9 hbA9 hS e1 dL_law_2079 ?_
  refine lv_aload_n C0.1 C0.2.1 dL_law_2080 rfl (lv_at hl 0 rfl) ?_
  refine lv_iload C0.1 C0.2.1 dL_law_2081 (lv_at hl 5 rfl) ?_
  refine lv_iconst (v := 2) C0.1 C0.2.1 dL_law_2083 (by decide) ?_
  refine lv_iadd C0.1 C0.2.1 dL_law_2084 ?_
  obtain ⟨e2, h⟩ := h
  refine va_sld C0.1 C0.2.1 hX9 hbl9 hbA9 hS e2 dL_law_2085 ?_
  refine lv_aload_n C0.1 C0.2.1 dL_law_2086 rfl (lv_at hl 0 rfl) ?_
  refine lv_iload C0.1 C0.2.1 dL_law_2087 (lv_at hl 5 rfl) ?_
  refine lv_iconst (v := 3) C0.1 C0.2.1 dL_law_2089 (by decide) ?_
  refine lv_iadd C0.1 C0.2.1 dL_law_2090 ?_
  obtain ⟨e3, h⟩ := h
  refine va_sld C0.1 C0.2.1 hX9 hbl9 hbA9 hS e3 dL_law_2091 ?_
  refine lv_aload_n C0.1 C0.2.1 dL_law_2092 rfl (lv_at hl 0 rfl) ?_
  refine lv_iload C0.1 C0.2.1 dL_law_2093 (lv_at hl 5 rfl) ?_
  refine lv_iconst (v := 4) C0.1 C0.2.1 dL_law_2095 (by decide) ?_
  refine lv_iadd C0.1 C0.2.1 dL_law_2096 ?_
  obtain ⟨e4, h⟩ := h
  refine va_sld C0.1 C0.2.1 hX9 hbl9 hbA9 hS e4 dL_law_2097 ?_
  refine lv_if_eq (tgt := 2105) C0.1 C0.2.1 dL_law_2098 (by decide) (fun c5 => ?_) (fun c5 => ?_)
  · replace h := h.1 c5
    refine lv_iconst (v := 0) C0.1 C0.2.1 dL_law_2105 (by decide) ?_
    exact bL_law_b2106 C0 Y hl9 hX9 hbl9 hbA9 hend9 hk28 _ _ _ _ _ _ _ _ _ _ _ _ _ _ _ _ h hO hS (lv_sub hl [0, 1, 2, 3, 4, 5] rfl) (by clear h; omega) (by clear h; omega)
  · replace h := h.2 c5
    refine lv_iconst (v := 1) C0.1 C0.2.1 dL_law_2101 (by decide) ?_
    refine lv_goto (tgt := 2106) C0.1 C0.2.1 dL_law_2102 (by decide) ?_
    exact bL_law_b2106 C0 Y hl9 hX9 hbl9 hbA9 hend9 hk28 _ _ _ _ _ _ _ _ _ _ _ _ _ _ _ _ h hO hS (lv_sub hl [0, 1, 2, 3, 4, 5] rfl) (by clear h; omega) (by clear h; omega)
def wL_law_b2253 (x0 : (Nat → Int32)) (L9 : Nat) (k28 : Hp → Nat → Nat → Nat → Nat → Int32 → Prop) (S : Hp) (v1 : Nat) (v2 : Nat) (v3 : Nat) (v4 : Nat) (v5 : Int32) : Prop := wL_law_b3146 x0 L9 k28 S v1 v2 v3 v4 v5
set_option maxHeartbeats 4000000 in
set_option maxRecDepth 100000 in
theorem bL_law_b2253 {p : Program} {l : Launch} {e : Env} {s : State} {m : MethodId} {args : Array Value} {below : List Frame} {meth : Method} {c : Code} {G : Gw} {b9 : Nat} {Q : State → Prop} {x0 : (Nat → Int32)} {L9 : Nat} (C0 : Mx p s m c code 9 args yL_law.cls G) (Y : My meth (some .boolean)) (hl9 : l.stackTraces = false) (hX9 : va_X b9 L9 x0 s s.heap) (hbl9 : b9 < s.heap.size) (hbA9 : ¬ Ab G.b b9) (hend9 : ∀ (pc : Nat) (H : Heap) (locs : List Loc) (ls : Array Slot) (cells slots : Nat), decode code pc = .ok (.ireturn, 1) → va_S (Ab G.b) s.heap H locs → cells ≤ 603072 → slots ≤ 7198826 → W p l e room_1 s m args below meth c H locs cells slots Q (F0 m pc ls [.int 1])) {n9_28 : Nat} {k28 : Hp → Nat → Nat → Nat → Nat → Int32 → Prop} (hk28 : ∀ (S : Hp) (v1 : Nat) (v2 : Nat) (v3 : Nat) (v4 : Nat) (v5 : Int32) (H : Heap) (locs : List Loc) (ls : Array Slot) (cells slots : Nat), k28 S v1 v2 v3 v4 v5 → Ok G S H → va_S (Ab G.b) s.heap H locs → lv_has ls 9 [(0, .ref b9), (1, .ref v1), (2, .ref v2), (3, .ref v3), (4, .ref v4), (5, .int v5)] → cells + (n9_28 * 97 + 97) ≤ 603072 → slots + (n9_28 * 2225 + 2225) ≤ 7198826 → W p l e room_1 s m args below meth c H locs cells slots Q (F0 m 28 ls [])) : ∀ (S : Hp) (v1 : Nat) (v2 : Nat) (v3 : Nat) (v4 : Nat) (v5 : Int32) (H : Heap) (locs : List Loc) (ls : Array Slot) (cells slots : Nat), wL_law_b2253 x0 L9 k28 S v1 v2 v3 v4 v5 → Ok G S H → va_S (Ab G.b) s.heap H locs → lv_has ls 9 [(0, .ref b9), (1, .ref v1), (2, .ref v2), (3, .ref v3), (4, .ref v4), (5, .int v5)] → cells + (n9_28 * 97 + 97) ≤ 603072 → slots + (n9_28 * 2225 + 2225) ≤ 7198826 → W p l e room_1 s m args below meth c H locs cells slots Q (F0 m 2253 ls []) := by
  intro S v1 v2 v3 v4 v5 H locs ls cells slots h hO hS hl hcc hss
  unfold wL_law_b2253 at h
  refine lv_goto (tgt := 3146) C0.1 C0.2.1 dL_law_2253 (by decide) ?_
  exact bL_law_b3146 C0 Y hl9 hX9 hbl9 hbA9 hend9 hk28 _ _ _ _ _ _ _ _ _ _ _ h hO hS (lv_sub hl [0, 1, 2, 3, 4, 5] rfl) (by clear h; omega) (by clear h; omega)
def wL_law_b2188 (x0 : (Nat → Int32)) (L9 : Nat) (k28 : Hp → Nat → Nat → Nat → Nat → Int32 → Prop) (S : Hp) (v1 : Nat) (v2 : Nat) (v3 : Nat) (v4 : Nat) (v5 : Int32) : Prop := vp_in (v5 + 1) L9 ∧ vp_in (v5 + 2) L9 ∧ wL_struck S v1 (x0 (v5 + 1).toNatClampNeg) (x0 (v5 + 2).toNatClampNeg) v3 (fun S3 r4 => vp_in (v5 + 1) L9 ∧ vp_in (v5 + 2) L9 ∧ isA S3 v2 8 ∧ wX8_struck S3 v2 (x0 (v5 + 1).toNatClampNeg) (x0 (v5 + 2).toNatClampNeg) (fun S7 r8 => isA S7 v2 8 ∧ wX8_thrown S7 v2 (fun S10 r11 => ((r11 = r4 → ((¬ r4 = 0 → wL_law_b2253 x0 L9 k28 S10 v1 v2 v3 v4 v5) ∧ (r4 = 0 → isA S10 v3 22 ∧ vp_in 0 (S10.N v3) ∧ (((lg_cmp (S10.AJ v3 ((0 : Int32).toNatClampNeg)) r8.toInt64) = 0 → wL_law_b2253 x0 L9 k28 S10 v1 v2 v3 v4 v5) ∧ (¬ ((lg_cmp (S10.AJ v3 ((0 : Int32).toNatClampNeg)) r8.toInt64) = 0) → False))))) ∧ (¬ (r11 = r4) → False)))))
set_option maxHeartbeats 4000000 in
set_option maxRecDepth 100000 in
theorem bL_law_b2188 {p : Program} {l : Launch} {e : Env} {s : State} {m : MethodId} {args : Array Value} {below : List Frame} {meth : Method} {c : Code} {G : Gw} {b9 : Nat} {Q : State → Prop} {x0 : (Nat → Int32)} {L9 : Nat} (C0 : Mx p s m c code 9 args yL_law.cls G) (Y : My meth (some .boolean)) (hl9 : l.stackTraces = false) (hX9 : va_X b9 L9 x0 s s.heap) (hbl9 : b9 < s.heap.size) (hbA9 : ¬ Ab G.b b9) (hend9 : ∀ (pc : Nat) (H : Heap) (locs : List Loc) (ls : Array Slot) (cells slots : Nat), decode code pc = .ok (.ireturn, 1) → va_S (Ab G.b) s.heap H locs → cells ≤ 603072 → slots ≤ 7198826 → W p l e room_1 s m args below meth c H locs cells slots Q (F0 m pc ls [.int 1])) {n9_28 : Nat} {k28 : Hp → Nat → Nat → Nat → Nat → Int32 → Prop} (hk28 : ∀ (S : Hp) (v1 : Nat) (v2 : Nat) (v3 : Nat) (v4 : Nat) (v5 : Int32) (H : Heap) (locs : List Loc) (ls : Array Slot) (cells slots : Nat), k28 S v1 v2 v3 v4 v5 → Ok G S H → va_S (Ab G.b) s.heap H locs → lv_has ls 9 [(0, .ref b9), (1, .ref v1), (2, .ref v2), (3, .ref v3), (4, .ref v4), (5, .int v5)] → cells + (n9_28 * 97 + 97) ≤ 603072 → slots + (n9_28 * 2225 + 2225) ≤ 7198826 → W p l e room_1 s m args below meth c H locs cells slots Q (F0 m 28 ls [])) : ∀ (S : Hp) (v1 : Nat) (v2 : Nat) (v3 : Nat) (v4 : Nat) (v5 : Int32) (H : Heap) (locs : List Loc) (ls : Array Slot) (cells slots : Nat), wL_law_b2188 x0 L9 k28 S v1 v2 v3 v4 v5 → Ok G S H → va_S (Ab G.b) s.heap H locs → lv_has ls 9 [(0, .ref b9), (1, .ref v1), (2, .ref v2), (3, .ref v3), (4, .ref v4), (5, .int v5)] → cells + (n9_28 * 97 + 99) ≤ 603072 → slots + (n9_28 * 2225 + 2237) ≤ 7198826 → W p l e room_1 s m args below meth c H locs cells slots Q (F0 m 2188 ls []) := by
  intro S v1 v2 v3 v4 v5 H locs ls cells slots h hO hS hl hcc hss
  unfold wL_law_b2188 at h
  refine lv_aload_n C0.1 C0.2.1 dL_law_2188 rfl (lv_at hl 1 rfl) ?_
  refine lv_aload_n C0.1 C0.2.1 dL_law_2189 rfl (lv_at hl 0 rfl) ?_
  refine lv_iload C0.1 C0.2.1 dL_law_2190 (lv_at hl 5 rfl) ?_
  refine lv_iconst (v := 1) C0.1 C0.2.1 dL_law_2192 (by decide) ?_
  refine lv_iadd C0.1 C0.2.1 dL_law_2193 ?_
  obtain ⟨e1, h⟩ := h
  refine va_sld C0.1 C0.2.1 hX9 hbl9 hbA9 hS e1 dL_law_2194 ?_
  refine lv_aload_n C0.1 C0.2.1 dL_law_2195 rfl (lv_at hl 0 rfl) ?_
  refine lv_iload C0.1 C0.2.1 dL_law_2196 (lv_at hl 5 rfl) ?_
  refine lv_iconst (v := 2) C0.1 C0.2.1 dL_law_2198 (by decide) ?_
  refine lv_iadd C0.1 C0.2.1 dL_law_2199 ?_
  obtain ⟨e2, h⟩ := h
  refine va_sld C0.1 C0.2.1 hX9 hbl9 hbA9 hS e2 dL_law_2200 ?_
  refine lv_aload_n C0.1 C0.2.1 dL_law_2201 rfl (lv_at hl 3 rfl) ?_
  refine c_SW C0 hO hS (mL_struck hl9 h) tb_1168 tb_1169 tb_73 tb_1170 hd_L_struck rfl ⟨⟨by decide, by decide⟩, by show _ + 2 ≤ 603072; omega, by show _ + 12 ≤ 7198826; omega⟩ hl.1 rfl (Nat.le_of_ble_eq_true rfl) dL_law_2202 (kI (fun r4 S3 H locs h hO hS => ?_))
  change W _ _ _ _ _ _ _ _ _ _ _ _ (_ + 2) (_ + 12) _ _
  refine lv_istore C0.1 C0.2.1 dL_law_2205 hl (by decide) rfl (fun ls hl => ?_)
  refine lv_aload_n C0.1 C0.2.1 dL_law_2207 rfl (lv_at hl 3 rfl) ?_
  refine lv_aload_n C0.1 C0.2.1 dL_law_2208 rfl (lv_at hl 1 rfl) ?_
  refine lv_iload C0.1 C0.2.1 dL_law_2209 (lv_at hl 6 rfl) ?_
  refine lv_iconst (v := 1) C0.1 C0.2.1 dL_law_2211 (by decide) ?_
  refine lv_iadd C0.1 C0.2.1 dL_law_2212 ?_
  obtain ⟨e5, h⟩ := h
  refine va_sld C0.1 C0.2.1 hX9 hbl9 hbA9 hS e5 dL_law_2213 ?_
  refine lv_aload_n C0.1 C0.2.1 dL_law_2214 rfl (lv_at hl 1 rfl) ?_
  refine lv_iload C0.1 C0.2.1 dL_law_2215 (lv_at hl 6 rfl) ?_
  refine lv_iconst (v := 2) C0.1 C0.2.1 dL_law_2217 (by decide) ?_
  refine lv_iadd C0.1 C0.2.1 dL_law_2218 ?_
  obtain ⟨e6, h⟩ := h
  refine va_sld C0.1 C0.2.1 hX9 hbl9 hbA9 hS e6 dL_law_2219 ?_
  obtain ⟨i9, h⟩ := h
  refine c_V C0 hO hS (mX8_struck h) i9 (by decide) rfl rfl tb_1711 tb_1712 tb_1713 tb_81 tb_1714 hd_X8_struck rfl ⟨⟨by decide, by decide⟩, by show _ + 0 ≤ 603072; omega, by show _ + 0 ≤ 7198826; omega⟩ hl.1 rfl (Nat.le_of_ble_eq_true rfl) dL_law_2220 (kI (fun r8 S7 H locs h hO hS => ?_))
  change W _ _ _ _ _ _ _ _ _ _ _ _ (_ + 0) (_ + 0) _ _
  refine lv_istore C0.1 C0.2.1 dL_law_2223 hl (by decide) rfl (fun ls hl => ?_)
  refine lv_aload_n C0.1 C0.2.1 dL_law_2225 rfl (lv_at hl 4 rfl) ?_
  obtain ⟨i12, h⟩ := h
  refine c_V C0 hO hS (mX8_thrown h) i12 (by decide) rfl rfl tb_1443 tb_1444 tb_1445 tb_81 tb_1446 hd_X8_thrown rfl ⟨⟨by decide, by decide⟩, by show _ + 0 ≤ 603072; omega, by show _ + 0 ≤ 7198826; omega⟩ hl.1 rfl (Nat.le_of_ble_eq_true rfl) dL_law_2226 (kI (fun r11 S10 H locs h hO hS => ?_))
  change W _ _ _ _ _ _ _ _ _ _ _ _ (_ + 0) (_ + 0) _ _
  refine lv_iload C0.1 C0.2.1 dL_law_2229 (lv_at hl 1 rfl) ?_
  refine lv_icmp_eq (tgt := 2236) C0.1 C0.2.1 dL_law_2231 (by decide) (fun c13 => ?_) (fun c13 => ?_)
  · replace h := h.1 c13
    refine lv_iload C0.1 C0.2.1 dL_law_2236 (lv_at hl 1 rfl) ?_
    refine lv_if_ne (tgt := 2253) C0.1 C0.2.1 dL_law_2238 (by decide) (fun c14 => ?_) (fun c14 => ?_)
    · replace h := h.1 c14
      exact bL_law_b2253 C0 Y hl9 hX9 hbl9 hbA9 hend9 hk28 _ _ _ _ _ _ _ _ _ _ _ h hO hS (lv_sub hl [2, 3, 4, 5, 6, 7] rfl) (by clear h; omega) (by clear h; omega)
    · replace h := h.2 c14
      refine lv_aload_n C0.1 C0.2.1 dL_law_2241 rfl (lv_at hl 5 rfl) ?_
      refine lv_iconst (v := 0) C0.1 C0.2.1 dL_law_2242 (by decide) ?_
      obtain ⟨i15, h⟩ := h
      obtain ⟨e16, h⟩ := h
      refine r_lald C0 hO i15 e16 dL_law_2243 ?_
      refine lv_iload C0.1 C0.2.1 dL_law_2244 (lv_at hl 0 rfl) ?_
      refine lv_i2l C0.1 C0.2.1 dL_law_2246 rfl ?_
      refine W.lcmp C0.1 C0.2.1 dL_law_2247 ?_
      refine lv_if_eq (tgt := 2253) C0.1 C0.2.1 dL_law_2248 (by decide) (fun c17 => ?_) (fun c17 => ?_)
      · replace h := h.1 c17
        exact bL_law_b2253 C0 Y hl9 hX9 hbl9 hbA9 hend9 hk28 _ _ _ _ _ _ _ _ _ _ _ h hO hS (lv_sub hl [2, 3, 4, 5, 6, 7] rfl) (by clear h; omega) (by clear h; omega)
      · replace h := h.2 c17
        refine lv_iconst (v := 0) C0.1 C0.2.1 dL_law_2251 (by decide) ?_
        exact h.elim
  · replace h := h.2 c13
    refine lv_iconst (v := 0) C0.1 C0.2.1 dL_law_2234 (by decide) ?_
    exact h.elim
def wL_law_b2345 (x0 : (Nat → Int32)) (L9 : Nat) (k28 : Hp → Nat → Nat → Nat → Nat → Int32 → Prop) (S : Hp) (v1 : Nat) (v2 : Nat) (v3 : Nat) (v4 : Nat) (v5 : Int32) : Prop := wL_law_b3146 x0 L9 k28 S v1 v2 v3 v4 v5
set_option maxHeartbeats 4000000 in
set_option maxRecDepth 100000 in
theorem bL_law_b2345 {p : Program} {l : Launch} {e : Env} {s : State} {m : MethodId} {args : Array Value} {below : List Frame} {meth : Method} {c : Code} {G : Gw} {b9 : Nat} {Q : State → Prop} {x0 : (Nat → Int32)} {L9 : Nat} (C0 : Mx p s m c code 9 args yL_law.cls G) (Y : My meth (some .boolean)) (hl9 : l.stackTraces = false) (hX9 : va_X b9 L9 x0 s s.heap) (hbl9 : b9 < s.heap.size) (hbA9 : ¬ Ab G.b b9) (hend9 : ∀ (pc : Nat) (H : Heap) (locs : List Loc) (ls : Array Slot) (cells slots : Nat), decode code pc = .ok (.ireturn, 1) → va_S (Ab G.b) s.heap H locs → cells ≤ 603072 → slots ≤ 7198826 → W p l e room_1 s m args below meth c H locs cells slots Q (F0 m pc ls [.int 1])) {n9_28 : Nat} {k28 : Hp → Nat → Nat → Nat → Nat → Int32 → Prop} (hk28 : ∀ (S : Hp) (v1 : Nat) (v2 : Nat) (v3 : Nat) (v4 : Nat) (v5 : Int32) (H : Heap) (locs : List Loc) (ls : Array Slot) (cells slots : Nat), k28 S v1 v2 v3 v4 v5 → Ok G S H → va_S (Ab G.b) s.heap H locs → lv_has ls 9 [(0, .ref b9), (1, .ref v1), (2, .ref v2), (3, .ref v3), (4, .ref v4), (5, .int v5)] → cells + (n9_28 * 97 + 97) ≤ 603072 → slots + (n9_28 * 2225 + 2225) ≤ 7198826 → W p l e room_1 s m args below meth c H locs cells slots Q (F0 m 28 ls [])) : ∀ (S : Hp) (v1 : Nat) (v2 : Nat) (v3 : Nat) (v4 : Nat) (v5 : Int32) (H : Heap) (locs : List Loc) (ls : Array Slot) (cells slots : Nat), wL_law_b2345 x0 L9 k28 S v1 v2 v3 v4 v5 → Ok G S H → va_S (Ab G.b) s.heap H locs → lv_has ls 9 [(0, .ref b9), (1, .ref v1), (2, .ref v2), (3, .ref v3), (4, .ref v4), (5, .int v5)] → cells + (n9_28 * 97 + 97) ≤ 603072 → slots + (n9_28 * 2225 + 2225) ≤ 7198826 → W p l e room_1 s m args below meth c H locs cells slots Q (F0 m 2345 ls []) := by
  intro S v1 v2 v3 v4 v5 H locs ls cells slots h hO hS hl hcc hss
  unfold wL_law_b2345 at h
  refine lv_goto (tgt := 3146) C0.1 C0.2.1 dL_law_2345 (by decide) ?_
  exact bL_law_b3146 C0 Y hl9 hX9 hbl9 hbA9 hend9 hk28 _ _ _ _ _ _ _ _ _ _ _ h hO hS (lv_sub hl [0, 1, 2, 3, 4, 5] rfl) (by clear h; omega) (by clear h; omega)
def wL_law_b2256 (x0 : (Nat → Int32)) (L9 : Nat) (k28 : Hp → Nat → Nat → Nat → Nat → Int32 → Prop) (S : Hp) (v1 : Nat) (v2 : Nat) (v3 : Nat) (v4 : Nat) (v5 : Int32) : Prop := vp_in (v5 + 1) L9 ∧ vp_in (v5 + 2) L9 ∧ vp_in (v5 + 3) L9 ∧ vp_in (v5 + 4) L9 ∧ wL_bars S v1 (x0 (v5 + 1).toNatClampNeg) (x0 (v5 + 2).toNatClampNeg) (x0 (v5 + 3).toNatClampNeg) (x0 (v5 + 4).toNatClampNeg) v3 (fun S5 r6 => vp_in (v5 + 1) L9 ∧ vp_in (v5 + 2) L9 ∧ vp_in (v5 + 3) L9 ∧ vp_in (v5 + 4) L9 ∧ isA S5 v2 8 ∧ wX8_bars S5 v2 (x0 (v5 + 1).toNatClampNeg) (x0 (v5 + 2).toNatClampNeg) (x0 (v5 + 3).toNatClampNeg) (x0 (v5 + 4).toNatClampNeg) (fun S11 r12 => isA S11 v2 8 ∧ wX8_thrown S11 v2 (fun S14 r15 => ((r15 = r6 → ((¬ r6 = 0 → wL_law_b2345 x0 L9 k28 S14 v1 v2 v3 v4 v5) ∧ (r6 = 0 → isA S14 v3 22 ∧ vp_in 0 (S14.N v3) ∧ (((lg_cmp (S14.AJ v3 ((0 : Int32).toNatClampNeg)) r12.toInt64) = 0 → wL_law_b2345 x0 L9 k28 S14 v1 v2 v3 v4 v5) ∧ (¬ ((lg_cmp (S14.AJ v3 ((0 : Int32).toNatClampNeg)) r12.toInt64) = 0) → False))))) ∧ (¬ (r15 = r6) → False)))))
set_option maxHeartbeats 4000000 in
set_option maxRecDepth 100000 in
theorem bL_law_b2256 {p : Program} {l : Launch} {e : Env} {s : State} {m : MethodId} {args : Array Value} {below : List Frame} {meth : Method} {c : Code} {G : Gw} {b9 : Nat} {Q : State → Prop} {x0 : (Nat → Int32)} {L9 : Nat} (C0 : Mx p s m c code 9 args yL_law.cls G) (Y : My meth (some .boolean)) (hl9 : l.stackTraces = false) (hX9 : va_X b9 L9 x0 s s.heap) (hbl9 : b9 < s.heap.size) (hbA9 : ¬ Ab G.b b9) (hend9 : ∀ (pc : Nat) (H : Heap) (locs : List Loc) (ls : Array Slot) (cells slots : Nat), decode code pc = .ok (.ireturn, 1) → va_S (Ab G.b) s.heap H locs → cells ≤ 603072 → slots ≤ 7198826 → W p l e room_1 s m args below meth c H locs cells slots Q (F0 m pc ls [.int 1])) {n9_28 : Nat} {k28 : Hp → Nat → Nat → Nat → Nat → Int32 → Prop} (hk28 : ∀ (S : Hp) (v1 : Nat) (v2 : Nat) (v3 : Nat) (v4 : Nat) (v5 : Int32) (H : Heap) (locs : List Loc) (ls : Array Slot) (cells slots : Nat), k28 S v1 v2 v3 v4 v5 → Ok G S H → va_S (Ab G.b) s.heap H locs → lv_has ls 9 [(0, .ref b9), (1, .ref v1), (2, .ref v2), (3, .ref v3), (4, .ref v4), (5, .int v5)] → cells + (n9_28 * 97 + 97) ≤ 603072 → slots + (n9_28 * 2225 + 2225) ≤ 7198826 → W p l e room_1 s m args below meth c H locs cells slots Q (F0 m 28 ls [])) : ∀ (S : Hp) (v1 : Nat) (v2 : Nat) (v3 : Nat) (v4 : Nat) (v5 : Int32) (H : Heap) (locs : List Loc) (ls : Array Slot) (cells slots : Nat), wL_law_b2256 x0 L9 k28 S v1 v2 v3 v4 v5 → Ok G S H → va_S (Ab G.b) s.heap H locs → lv_has ls 9 [(0, .ref b9), (1, .ref v1), (2, .ref v2), (3, .ref v3), (4, .ref v4), (5, .int v5)] → cells + (n9_28 * 97 + 102) ≤ 603072 → slots + (n9_28 * 2225 + 2253) ≤ 7198826 → W p l e room_1 s m args below meth c H locs cells slots Q (F0 m 2256 ls []) := by
  intro S v1 v2 v3 v4 v5 H locs ls cells slots h hO hS hl hcc hss
  unfold wL_law_b2256 at h
  refine lv_aload_n C0.1 C0.2.1 dL_law_2256 rfl (lv_at hl 1 rfl) ?_
  refine lv_aload_n C0.1 C0.2.1 dL_law_2257 rfl (lv_at hl 0 rfl) ?_
  refine lv_iload C0.1 C0.2.1 dL_law_2258 (lv_at hl 5 rfl) ?_
  refine lv_iconst (v := 1) C0.1 C0.2.1 dL_law_2260 (by decide) ?_
  refine lv_iadd C0.1 C0.2.1 dL_law_2261 ?_
  obtain ⟨e1, h⟩ := h
  refine va_sld C0.1 C0.2.1 hX9 hbl9 hbA9 hS e1 dL_law_2262 ?_
  refine lv_aload_n C0.1 C0.2.1 dL_law_2263 rfl (lv_at hl 0 rfl) ?_
  refine lv_iload C0.1 C0.2.1 dL_law_2264 (lv_at hl 5 rfl) ?_
  refine lv_iconst (v := 2) C0.1 C0.2.1 dL_law_2266 (by decide) ?_
  refine lv_iadd C0.1 C0.2.1 dL_law_2267 ?_
  obtain ⟨e2, h⟩ := h
  refine va_sld C0.1 C0.2.1 hX9 hbl9 hbA9 hS e2 dL_law_2268 ?_
  refine lv_aload_n C0.1 C0.2.1 dL_law_2269 rfl (lv_at hl 0 rfl) ?_
  refine lv_iload C0.1 C0.2.1 dL_law_2270 (lv_at hl 5 rfl) ?_
  refine lv_iconst (v := 3) C0.1 C0.2.1 dL_law_2272 (by decide) ?_
  refine lv_iadd C0.1 C0.2.1 dL_law_2273 ?_
  obtain ⟨e3, h⟩ := h
  refine va_sld C0.1 C0.2.1 hX9 hbl9 hbA9 hS e3 dL_law_2274 ?_
  refine lv_aload_n C0.1 C0.2.1 dL_law_2275 rfl (lv_at hl 0 rfl) ?_
  refine lv_iload C0.1 C0.2.1 dL_law_2276 (lv_at hl 5 rfl) ?_
  refine lv_iconst (v := 4) C0.1 C0.2.1 dL_law_2278 (by decide) ?_
  refine lv_iadd C0.1 C0.2.1 dL_law_2279 ?_
  obtain ⟨e4, h⟩ := h
  refine va_sld C0.1 C0.2.1 hX9 hbl9 hbA9 hS e4 dL_law_2280 ?_
  refine lv_aload_n C0.1 C0.2.1 dL_law_2281 rfl (lv_at hl 3 rfl) ?_
  refine c_SW C0 hO hS (mL_bars hl9 h) tb_1175 tb_1176 tb_73 tb_1177 hd_L_bars rfl ⟨⟨by decide, by decide⟩, by show _ + 5 ≤ 603072; omega, by show _ + 28 ≤ 7198826; omega⟩ hl.1 rfl (Nat.le_of_ble_eq_true rfl) dL_law_2282 (kI (fun r6 S5 H locs h hO hS => ?_))
  change W _ _ _ _ _ _ _ _ _ _ _ _ (_ + 5) (_ + 28) _ _
  refine lv_istore C0.1 C0.2.1 dL_law_2285 hl (by decide) rfl (fun ls hl => ?_)
  refine lv_aload_n C0.1 C0.2.1 dL_law_2287 rfl (lv_at hl 3 rfl) ?_
  refine lv_aload_n C0.1 C0.2.1 dL_law_2288 rfl (lv_at hl 1 rfl) ?_
  refine lv_iload C0.1 C0.2.1 dL_law_2289 (lv_at hl 6 rfl) ?_
  refine lv_iconst (v := 1) C0.1 C0.2.1 dL_law_2291 (by decide) ?_
  refine lv_iadd C0.1 C0.2.1 dL_law_2292 ?_
  obtain ⟨e7, h⟩ := h
  refine va_sld C0.1 C0.2.1 hX9 hbl9 hbA9 hS e7 dL_law_2293 ?_
  refine lv_aload_n C0.1 C0.2.1 dL_law_2294 rfl (lv_at hl 1 rfl) ?_
  refine lv_iload C0.1 C0.2.1 dL_law_2295 (lv_at hl 6 rfl) ?_
  refine lv_iconst (v := 2) C0.1 C0.2.1 dL_law_2297 (by decide) ?_
  refine lv_iadd C0.1 C0.2.1 dL_law_2298 ?_
  obtain ⟨e8, h⟩ := h
  refine va_sld C0.1 C0.2.1 hX9 hbl9 hbA9 hS e8 dL_law_2299 ?_
  refine lv_aload_n C0.1 C0.2.1 dL_law_2300 rfl (lv_at hl 1 rfl) ?_
  refine lv_iload C0.1 C0.2.1 dL_law_2301 (lv_at hl 6 rfl) ?_
  refine lv_iconst (v := 3) C0.1 C0.2.1 dL_law_2303 (by decide) ?_
  refine lv_iadd C0.1 C0.2.1 dL_law_2304 ?_
  obtain ⟨e9, h⟩ := h
  refine va_sld C0.1 C0.2.1 hX9 hbl9 hbA9 hS e9 dL_law_2305 ?_
  refine lv_aload_n C0.1 C0.2.1 dL_law_2306 rfl (lv_at hl 1 rfl) ?_
  refine lv_iload C0.1 C0.2.1 dL_law_2307 (lv_at hl 6 rfl) ?_
  refine lv_iconst (v := 4) C0.1 C0.2.1 dL_law_2309 (by decide) ?_
  refine lv_iadd C0.1 C0.2.1 dL_law_2310 ?_
  obtain ⟨e10, h⟩ := h
  refine va_sld C0.1 C0.2.1 hX9 hbl9 hbA9 hS e10 dL_law_2311 ?_
  obtain ⟨i13, h⟩ := h
  refine c_V C0 hO hS (mX8_bars h) i13 (by decide) rfl rfl tb_1715 tb_1716 tb_1717 tb_81 tb_1718 hd_X8_bars rfl ⟨⟨by decide, by decide⟩, by show _ + 0 ≤ 603072; omega, by show _ + 0 ≤ 7198826; omega⟩ hl.1 rfl (Nat.le_of_ble_eq_true rfl) dL_law_2312 (kI (fun r12 S11 H locs h hO hS => ?_))
  change W _ _ _ _ _ _ _ _ _ _ _ _ (_ + 0) (_ + 0) _ _
  refine lv_istore C0.1 C0.2.1 dL_law_2315 hl (by decide) rfl (fun ls hl => ?_)
  refine lv_aload_n C0.1 C0.2.1 dL_law_2317 rfl (lv_at hl 4 rfl) ?_
  obtain ⟨i16, h⟩ := h
  refine c_V C0 hO hS (mX8_thrown h) i16 (by decide) rfl rfl tb_1443 tb_1444 tb_1445 tb_81 tb_1446 hd_X8_thrown rfl ⟨⟨by decide, by decide⟩, by show _ + 0 ≤ 603072; omega, by show _ + 0 ≤ 7198826; omega⟩ hl.1 rfl (Nat.le_of_ble_eq_true rfl) dL_law_2318 (kI (fun r15 S14 H locs h hO hS => ?_))
  change W _ _ _ _ _ _ _ _ _ _ _ _ (_ + 0) (_ + 0) _ _
  refine lv_iload C0.1 C0.2.1 dL_law_2321 (lv_at hl 1 rfl) ?_
  refine lv_icmp_eq (tgt := 2328) C0.1 C0.2.1 dL_law_2323 (by decide) (fun c17 => ?_) (fun c17 => ?_)
  · replace h := h.1 c17
    refine lv_iload C0.1 C0.2.1 dL_law_2328 (lv_at hl 1 rfl) ?_
    refine lv_if_ne (tgt := 2345) C0.1 C0.2.1 dL_law_2330 (by decide) (fun c18 => ?_) (fun c18 => ?_)
    · replace h := h.1 c18
      exact bL_law_b2345 C0 Y hl9 hX9 hbl9 hbA9 hend9 hk28 _ _ _ _ _ _ _ _ _ _ _ h hO hS (lv_sub hl [2, 3, 4, 5, 6, 7] rfl) (by clear h; omega) (by clear h; omega)
    · replace h := h.2 c18
      refine lv_aload_n C0.1 C0.2.1 dL_law_2333 rfl (lv_at hl 5 rfl) ?_
      refine lv_iconst (v := 0) C0.1 C0.2.1 dL_law_2334 (by decide) ?_
      obtain ⟨i19, h⟩ := h
      obtain ⟨e20, h⟩ := h
      refine r_lald C0 hO i19 e20 dL_law_2335 ?_
      refine lv_iload C0.1 C0.2.1 dL_law_2336 (lv_at hl 0 rfl) ?_
      refine lv_i2l C0.1 C0.2.1 dL_law_2338 rfl ?_
      refine W.lcmp C0.1 C0.2.1 dL_law_2339 ?_
      refine lv_if_eq (tgt := 2345) C0.1 C0.2.1 dL_law_2340 (by decide) (fun c21 => ?_) (fun c21 => ?_)
      · replace h := h.1 c21
        exact bL_law_b2345 C0 Y hl9 hX9 hbl9 hbA9 hend9 hk28 _ _ _ _ _ _ _ _ _ _ _ h hO hS (lv_sub hl [2, 3, 4, 5, 6, 7] rfl) (by clear h; omega) (by clear h; omega)
      · replace h := h.2 c21
        refine lv_iconst (v := 0) C0.1 C0.2.1 dL_law_2343 (by decide) ?_
        exact h.elim
  · replace h := h.2 c17
    refine lv_iconst (v := 0) C0.1 C0.2.1 dL_law_2326 (by decide) ?_
    exact h.elim
def wL_law_b2464 (x0 : (Nat → Int32)) (L9 : Nat) (k28 : Hp → Nat → Nat → Nat → Nat → Int32 → Prop) (S : Hp) (v1 : Nat) (v2 : Nat) (v3 : Nat) (v4 : Nat) (v5 : Int32) : Prop := wL_law_b3146 x0 L9 k28 S v1 v2 v3 v4 v5
set_option maxHeartbeats 4000000 in
set_option maxRecDepth 100000 in
theorem bL_law_b2464 {p : Program} {l : Launch} {e : Env} {s : State} {m : MethodId} {args : Array Value} {below : List Frame} {meth : Method} {c : Code} {G : Gw} {b9 : Nat} {Q : State → Prop} {x0 : (Nat → Int32)} {L9 : Nat} (C0 : Mx p s m c code 9 args yL_law.cls G) (Y : My meth (some .boolean)) (hl9 : l.stackTraces = false) (hX9 : va_X b9 L9 x0 s s.heap) (hbl9 : b9 < s.heap.size) (hbA9 : ¬ Ab G.b b9) (hend9 : ∀ (pc : Nat) (H : Heap) (locs : List Loc) (ls : Array Slot) (cells slots : Nat), decode code pc = .ok (.ireturn, 1) → va_S (Ab G.b) s.heap H locs → cells ≤ 603072 → slots ≤ 7198826 → W p l e room_1 s m args below meth c H locs cells slots Q (F0 m pc ls [.int 1])) {n9_28 : Nat} {k28 : Hp → Nat → Nat → Nat → Nat → Int32 → Prop} (hk28 : ∀ (S : Hp) (v1 : Nat) (v2 : Nat) (v3 : Nat) (v4 : Nat) (v5 : Int32) (H : Heap) (locs : List Loc) (ls : Array Slot) (cells slots : Nat), k28 S v1 v2 v3 v4 v5 → Ok G S H → va_S (Ab G.b) s.heap H locs → lv_has ls 9 [(0, .ref b9), (1, .ref v1), (2, .ref v2), (3, .ref v3), (4, .ref v4), (5, .int v5)] → cells + (n9_28 * 97 + 97) ≤ 603072 → slots + (n9_28 * 2225 + 2225) ≤ 7198826 → W p l e room_1 s m args below meth c H locs cells slots Q (F0 m 28 ls [])) : ∀ (S : Hp) (v1 : Nat) (v2 : Nat) (v3 : Nat) (v4 : Nat) (v5 : Int32) (H : Heap) (locs : List Loc) (ls : Array Slot) (cells slots : Nat), wL_law_b2464 x0 L9 k28 S v1 v2 v3 v4 v5 → Ok G S H → va_S (Ab G.b) s.heap H locs → lv_has ls 9 [(0, .ref b9), (1, .ref v1), (2, .ref v2), (3, .ref v3), (4, .ref v4), (5, .int v5)] → cells + (n9_28 * 97 + 97) ≤ 603072 → slots + (n9_28 * 2225 + 2225) ≤ 7198826 → W p l e room_1 s m args below meth c H locs cells slots Q (F0 m 2464 ls []) := by
  intro S v1 v2 v3 v4 v5 H locs ls cells slots h hO hS hl hcc hss
  unfold wL_law_b2464 at h
  refine lv_goto (tgt := 3146) C0.1 C0.2.1 dL_law_2464 (by decide) ?_
  exact bL_law_b3146 C0 Y hl9 hX9 hbl9 hbA9 hend9 hk28 _ _ _ _ _ _ _ _ _ _ _ h hO hS (lv_sub hl [0, 1, 2, 3, 4, 5] rfl) (by clear h; omega) (by clear h; omega)
def wL_law_b2432 (x0 : (Nat → Int32)) (L9 : Nat) (k28 : Hp → Nat → Nat → Nat → Nat → Int32 → Prop) (S : Hp) (v1 : Nat) (v2 : Nat) (v3 : Nat) (v4 : Nat) (v5 : Int32) (v6 : Int32) (z0 : Nat) (z1 : Int32) (z2 : Int32) (z3 : Int32) (z4 : Int32) (z5 : Int32) : Prop := isA S z0 8 ∧ wX8_limitOver S z0 z1 z2 z3 z4 z5 (fun S1 r2 => isA S1 v2 8 ∧ wX8_thrown S1 v2 (fun S4 r5 => ((r5 = v6 → ((¬ v6 = 0 → wL_law_b2464 x0 L9 k28 S4 v1 v2 v3 v4 v5) ∧ (v6 = 0 → isA S4 v3 22 ∧ vp_in 0 (S4.N v3) ∧ (((lg_cmp (S4.AJ v3 ((0 : Int32).toNatClampNeg)) r2) = 0 → wL_law_b2464 x0 L9 k28 S4 v1 v2 v3 v4 v5) ∧ (¬ ((lg_cmp (S4.AJ v3 ((0 : Int32).toNatClampNeg)) r2) = 0) → False))))) ∧ (¬ (r5 = v6) → False))))
set_option maxHeartbeats 4000000 in
set_option maxRecDepth 100000 in
theorem bL_law_b2432 {p : Program} {l : Launch} {e : Env} {s : State} {m : MethodId} {args : Array Value} {below : List Frame} {meth : Method} {c : Code} {G : Gw} {b9 : Nat} {Q : State → Prop} {x0 : (Nat → Int32)} {L9 : Nat} (C0 : Mx p s m c code 9 args yL_law.cls G) (Y : My meth (some .boolean)) (hl9 : l.stackTraces = false) (hX9 : va_X b9 L9 x0 s s.heap) (hbl9 : b9 < s.heap.size) (hbA9 : ¬ Ab G.b b9) (hend9 : ∀ (pc : Nat) (H : Heap) (locs : List Loc) (ls : Array Slot) (cells slots : Nat), decode code pc = .ok (.ireturn, 1) → va_S (Ab G.b) s.heap H locs → cells ≤ 603072 → slots ≤ 7198826 → W p l e room_1 s m args below meth c H locs cells slots Q (F0 m pc ls [.int 1])) {n9_28 : Nat} {k28 : Hp → Nat → Nat → Nat → Nat → Int32 → Prop} (hk28 : ∀ (S : Hp) (v1 : Nat) (v2 : Nat) (v3 : Nat) (v4 : Nat) (v5 : Int32) (H : Heap) (locs : List Loc) (ls : Array Slot) (cells slots : Nat), k28 S v1 v2 v3 v4 v5 → Ok G S H → va_S (Ab G.b) s.heap H locs → lv_has ls 9 [(0, .ref b9), (1, .ref v1), (2, .ref v2), (3, .ref v3), (4, .ref v4), (5, .int v5)] → cells + (n9_28 * 97 + 97) ≤ 603072 → slots + (n9_28 * 2225 + 2225) ≤ 7198826 → W p l e room_1 s m args below meth c H locs cells slots Q (F0 m 28 ls [])) : ∀ (S : Hp) (v1 : Nat) (v2 : Nat) (v3 : Nat) (v4 : Nat) (v5 : Int32) (v6 : Int32) (z0 : Nat) (z1 : Int32) (z2 : Int32) (z3 : Int32) (z4 : Int32) (z5 : Int32) (H : Heap) (locs : List Loc) (ls : Array Slot) (cells slots : Nat), wL_law_b2432 x0 L9 k28 S v1 v2 v3 v4 v5 v6 z0 z1 z2 z3 z4 z5 → Ok G S H → va_S (Ab G.b) s.heap H locs → lv_has ls 9 [(0, .ref b9), (1, .ref v1), (2, .ref v2), (3, .ref v3), (4, .ref v4), (5, .int v5), (6, .int v6)] → cells + (n9_28 * 97 + 97) ≤ 603072 → slots + (n9_28 * 2225 + 2225) ≤ 7198826 → W p l e room_1 s m args below meth c H locs cells slots Q (F0 m 2432 ls [.int z5, .int z4, .int z3, .int z2, .int z1, .ref z0]) := by
  intro S v1 v2 v3 v4 v5 v6 z0 z1 z2 z3 z4 z5 H locs ls cells slots h hO hS hl hcc hss
  unfold wL_law_b2432 at h
  obtain ⟨i3, h⟩ := h
  refine c_V C0 hO hS (mX8_limitOver h) i3 (by decide) rfl rfl tb_1724 tb_1725 tb_1726 tb_81 tb_1727 hd_X8_limitOver rfl ⟨⟨by decide, by decide⟩, by show _ + 0 ≤ 603072; omega, by show _ + 0 ≤ 7198826; omega⟩ hl.1 rfl (Nat.le_of_ble_eq_true rfl) dL_law_2432 (kJ (fun r2 S1 H locs h hO hS => ?_))
  change W _ _ _ _ _ _ _ _ _ _ _ _ (_ + 0) (_ + 0) _ _
  refine lv_lstore C0.1 C0.2.1 dL_law_2435 hl (by decide) rfl (fun ls hl => ?_)
  refine lv_aload_n C0.1 C0.2.1 dL_law_2437 rfl (lv_at hl 3 rfl) ?_
  obtain ⟨i6, h⟩ := h
  refine c_V C0 hO hS (mX8_thrown h) i6 (by decide) rfl rfl tb_1443 tb_1444 tb_1445 tb_81 tb_1446 hd_X8_thrown rfl ⟨⟨by decide, by decide⟩, by show _ + 0 ≤ 603072; omega, by show _ + 0 ≤ 7198826; omega⟩ hl.1 rfl (Nat.le_of_ble_eq_true rfl) dL_law_2438 (kI (fun r5 S4 H locs h hO hS => ?_))
  change W _ _ _ _ _ _ _ _ _ _ _ _ (_ + 0) (_ + 0) _ _
  refine lv_iload C0.1 C0.2.1 dL_law_2441 (lv_at hl 7 rfl) ?_
  refine lv_icmp_eq (tgt := 2448) C0.1 C0.2.1 dL_law_2443 (by decide) (fun c7 => ?_) (fun c7 => ?_)
  · replace h := h.1 c7
    refine lv_iload C0.1 C0.2.1 dL_law_2448 (lv_at hl 7 rfl) ?_
    refine lv_if_ne (tgt := 2464) C0.1 C0.2.1 dL_law_2450 (by decide) (fun c8 => ?_) (fun c8 => ?_)
    · replace h := h.1 c8
      exact bL_law_b2464 C0 Y hl9 hX9 hbl9 hbA9 hend9 hk28 _ _ _ _ _ _ _ _ _ _ _ h hO hS (lv_sub hl [1, 2, 3, 4, 5, 6] rfl) (by clear h; omega) (by clear h; omega)
    · replace h := h.2 c8
      refine lv_aload_n C0.1 C0.2.1 dL_law_2453 rfl (lv_at hl 4 rfl) ?_
      refine lv_iconst (v := 0) C0.1 C0.2.1 dL_law_2454 (by decide) ?_
      obtain ⟨i9, h⟩ := h
      obtain ⟨e10, h⟩ := h
      refine r_lald C0 hO i9 e10 dL_law_2455 ?_
      refine lv_lload C0.1 C0.2.1 dL_law_2456 (lv_at hl 0 rfl) ?_
      refine W.lcmp C0.1 C0.2.1 dL_law_2458 ?_
      refine lv_if_eq (tgt := 2464) C0.1 C0.2.1 dL_law_2459 (by decide) (fun c11 => ?_) (fun c11 => ?_)
      · replace h := h.1 c11
        exact bL_law_b2464 C0 Y hl9 hX9 hbl9 hbA9 hend9 hk28 _ _ _ _ _ _ _ _ _ _ _ h hO hS (lv_sub hl [1, 2, 3, 4, 5, 6] rfl) (by clear h; omega) (by clear h; omega)
      · replace h := h.2 c11
        refine lv_iconst (v := 0) C0.1 C0.2.1 dL_law_2462 (by decide) ?_
        exact h.elim
  · replace h := h.2 c7
    refine lv_iconst (v := 0) C0.1 C0.2.1 dL_law_2446 (by decide) ?_
    exact h.elim
def wL_law_b2387 (x0 : (Nat → Int32)) (L9 : Nat) (k28 : Hp → Nat → Nat → Nat → Nat → Int32 → Prop) (S : Hp) (v1 : Nat) (v2 : Nat) (v3 : Nat) (v4 : Nat) (v5 : Int32) (z0 : Nat) (z1 : Int32) (z2 : Int32) (z3 : Int32) (z4 : Int32) (z5 : Int32) : Prop := wL_limitOver S z0 z1 z2 z3 z4 z5 v3 (fun S1 r2 => vp_in (v5 + 1) L9 ∧ vp_in (v5 + 2) L9 ∧ vp_in (v5 + 3) L9 ∧ vp_in (v5 + 4) L9 ∧ vp_in (v5 + 5) L9 ∧ (((x0 (v5 + 5).toNatClampNeg) = 0 → wL_law_b2432 x0 L9 k28 S1 v1 v2 v3 v4 v5 r2 v2 (x0 (v5 + 1).toNatClampNeg) (x0 (v5 + 2).toNatClampNeg) (x0 (v5 + 3).toNatClampNeg) (x0 (v5 + 4).toNatClampNeg) 0) ∧ (¬ ((x0 (v5 + 5).toNatClampNeg) = 0) → wL_law_b2432 x0 L9 k28 S1 v1 v2 v3 v4 v5 r2 v2 (x0 (v5 + 1).toNatClampNeg) (x0 (v5 + 2).toNatClampNeg) (x0 (v5 + 3).toNatClampNeg) (x0 (v5 + 4).toNatClampNeg) 1)))
set_option maxHeartbeats 4000000 in
set_option maxRecDepth 100000 in
theorem bL_law_b2387 {p : Program} {l : Launch} {e : Env} {s : State} {m : MethodId} {args : Array Value} {below : List Frame} {meth : Method} {c : Code} {G : Gw} {b9 : Nat} {Q : State → Prop} {x0 : (Nat → Int32)} {L9 : Nat} (C0 : Mx p s m c code 9 args yL_law.cls G) (Y : My meth (some .boolean)) (hl9 : l.stackTraces = false) (hX9 : va_X b9 L9 x0 s s.heap) (hbl9 : b9 < s.heap.size) (hbA9 : ¬ Ab G.b b9) (hend9 : ∀ (pc : Nat) (H : Heap) (locs : List Loc) (ls : Array Slot) (cells slots : Nat), decode code pc = .ok (.ireturn, 1) → va_S (Ab G.b) s.heap H locs → cells ≤ 603072 → slots ≤ 7198826 → W p l e room_1 s m args below meth c H locs cells slots Q (F0 m pc ls [.int 1])) {n9_28 : Nat} {k28 : Hp → Nat → Nat → Nat → Nat → Int32 → Prop} (hk28 : ∀ (S : Hp) (v1 : Nat) (v2 : Nat) (v3 : Nat) (v4 : Nat) (v5 : Int32) (H : Heap) (locs : List Loc) (ls : Array Slot) (cells slots : Nat), k28 S v1 v2 v3 v4 v5 → Ok G S H → va_S (Ab G.b) s.heap H locs → lv_has ls 9 [(0, .ref b9), (1, .ref v1), (2, .ref v2), (3, .ref v3), (4, .ref v4), (5, .int v5)] → cells + (n9_28 * 97 + 97) ≤ 603072 → slots + (n9_28 * 2225 + 2225) ≤ 7198826 → W p l e room_1 s m args below meth c H locs cells slots Q (F0 m 28 ls [])) : ∀ (S : Hp) (v1 : Nat) (v2 : Nat) (v3 : Nat) (v4 : Nat) (v5 : Int32) (z0 : Nat) (z1 : Int32) (z2 : Int32) (z3 : Int32) (z4 : Int32) (z5 : Int32) (H : Heap) (locs : List Loc) (ls : Array Slot) (cells slots : Nat), wL_law_b2387 x0 L9 k28 S v1 v2 v3 v4 v5 z0 z1 z2 z3 z4 z5 → Ok G S H → va_S (Ab G.b) s.heap H locs → lv_has ls 9 [(0, .ref b9), (1, .ref v1), (2, .ref v2), (3, .ref v3), (4, .ref v4), (5, .int v5)] → cells + (n9_28 * 97 + 104) ≤ 603072 → slots + (n9_28 * 2225 + 2261) ≤ 7198826 → W p l e room_1 s m args below meth c H locs cells slots Q (F0 m 2387 ls [.int z5, .int z4, .int z3, .int z2, .int z1, .ref z0]) := by
  intro S v1 v2 v3 v4 v5 z0 z1 z2 z3 z4 z5 H locs ls cells slots h hO hS hl hcc hss
  unfold wL_law_b2387 at h
  refine lv_aload_n C0.1 C0.2.1 dL_law_2387 rfl (lv_at hl 3 rfl) ?_
  refine c_SW C0 hO hS (mL_limitOver hl9 h) tb_1214 tb_1215 tb_73 tb_1216 hd_L_limitOver rfl ⟨⟨by decide, by decide⟩, by show _ + 7 ≤ 603072; omega, by show _ + 36 ≤ 7198826; omega⟩ hl.1 rfl (Nat.le_of_ble_eq_true rfl) dL_law_2388 (kI (fun r2 S1 H locs h hO hS => ?_))
  change W _ _ _ _ _ _ _ _ _ _ _ _ (_ + 7) (_ + 36) _ _
  refine lv_istore C0.1 C0.2.1 dL_law_2391 hl (by decide) rfl (fun ls hl => ?_)
  refine lv_aload_n C0.1 C0.2.1 dL_law_2393 rfl (lv_at hl 3 rfl) ?_
  refine lv_aload_n C0.1 C0.2.1 dL_law_2394 rfl (lv_at hl 1 rfl) ?_
  refine lv_iload C0.1 C0.2.1 dL_law_2395 (lv_at hl 6 rfl) ?_
  refine lv_iconst (v := 1) C0.1 C0.2.1 dL_law_2397 (by decide) ?_
  refine lv_iadd C0.1 C0.2.1 dL_law_2398 ?_
  obtain ⟨e3, h⟩ := h
  refine va_sld C0.1 C0.2.1 hX9 hbl9 hbA9 hS e3 dL_law_2399 ?_
  refine lv_aload_n C0.1 C0.2.1 dL_law_2400 rfl (lv_at hl 1 rfl) ?_
  refine lv_iload C0.1 C0.2.1 dL_law_2401 (lv_at hl 6 rfl) ?_
  refine lv_iconst (v := 2) C0.1 C0.2.1 dL_law_2403 (by decide) ?_
  refine lv_iadd C0.1 C0.2.1 dL_law_2404 ?_
  obtain ⟨e4, h⟩ := h
  refine va_sld C0.1 C0.2.1 hX9 hbl9 hbA9 hS e4 dL_law_2405 ?_
  refine lv_aload_n C0.1 C0.2.1 dL_law_2406 rfl (lv_at hl 1 rfl) ?_
  refine lv_iload C0.1 C0.2.1 dL_law_2407 (lv_at hl 6 rfl) ?_
  refine lv_iconst (v := 3) C0.1 C0.2.1 dL_law_2409 (by decide) ?_
  refine lv_iadd C0.1 C0.2.1 dL_law_2410 ?_
  obtain ⟨e5, h⟩ := h
  refine va_sld C0.1 C0.2.1 hX9 hbl9 hbA9 hS e5 dL_law_2411 ?_
  refine lv_aload_n C0.1 C0.2.1 dL_law_2412 rfl (lv_at hl 1 rfl) ?_
  refine lv_iload C0.1 C0.2.1 dL_law_2413 (lv_at hl 6 rfl) ?_
  refine lv_iconst (v := 4) C0.1 C0.2.1 dL_law_2415 (by decide) ?_
  refine lv_iadd C0.1 C0.2.1 dL_law_2416 ?_
  obtain ⟨e6, h⟩ := h
  refine va_sld C0.1 C0.2.1 hX9 hbl9 hbA9 hS e6 dL_law_2417 ?_
  refine lv_aload_n C0.1 C0.2.1 dL_law_2418 rfl (lv_at hl 1 rfl) ?_
  refine lv_iload C0.1 C0.2.1 dL_law_2419 (lv_at hl 6 rfl) ?_
  refine lv_iconst (v := 5) C0.1 C0.2.1 dL_law_2421 (by decide) ?_
  refine lv_iadd C0.1 C0.2.1 dL_law_2422 ?_
  obtain ⟨e7, h⟩ := h
  refine va_sld C0.1 C0.2.1 hX9 hbl9 hbA9 hS e7 dL_law_2423 ?_
  refine lv_if_eq (tgt := 2431) C0.1 C0.2.1 dL_law_2424 (by decide) (fun c8 => ?_) (fun c8 => ?_)
  · replace h := h.1 c8
    refine lv_iconst (v := 0) C0.1 C0.2.1 dL_law_2431 (by decide) ?_
    exact bL_law_b2432 C0 Y hl9 hX9 hbl9 hbA9 hend9 hk28 _ _ _ _ _ _ _ _ _ _ _ _ _ _ _ _ _ _ h hO hS (lv_sub hl [1, 2, 3, 4, 5, 6, 0] rfl) (by clear h; omega) (by clear h; omega)
  · replace h := h.2 c8
    refine lv_iconst (v := 1) C0.1 C0.2.1 dL_law_2427 (by decide) ?_
    refine lv_goto (tgt := 2432) C0.1 C0.2.1 dL_law_2428 (by decide) ?_
    exact bL_law_b2432 C0 Y hl9 hX9 hbl9 hbA9 hend9 hk28 _ _ _ _ _ _ _ _ _ _ _ _ _ _ _ _ _ _ h hO hS (lv_sub hl [1, 2, 3, 4, 5, 6, 0] rfl) (by clear h; omega) (by clear h; omega)
def wL_law_b2348 (x0 : (Nat → Int32)) (L9 : Nat) (k28 : Hp → Nat → Nat → Nat → Nat → Int32 → Prop) (S : Hp) (v1 : Nat) (v2 : Nat) (v3 : Nat) (v4 : Nat) (v5 : Int32) : Prop := vp_in (v5 + 1) L9 ∧ vp_in (v5 + 2) L9 ∧ vp_in (v5 + 3) L9 ∧ vp_in (v5 + 4) L9 ∧ vp_in (v5 + 5) L9 ∧ (((x0 (v5 + 5).toNatClampNeg) = 0 → wL_law_b2387 x0 L9 k28 S v1 v2 v3 v4 v5 v1 (x0 (v5 + 1).toNatClampNeg) (x0 (v5 + 2).toNatClampNeg) (x0 (v5 + 3).toNatClampNeg) (x0 (v5 + 4).toNatClampNeg) 0) ∧ (¬ ((x0 (v5 + 5).toNatClampNeg) = 0) → wL_law_b2387 x0 L9 k28 S v1 v2 v3 v4 v5 v1 (x0 (v5 + 1).toNatClampNeg) (x0 (v5 + 2).toNatClampNeg) (x0 (v5 + 3).toNatClampNeg) (x0 (v5 + 4).toNatClampNeg) 1))
set_option maxHeartbeats 4000000 in
set_option maxRecDepth 100000 in
theorem bL_law_b2348 {p : Program} {l : Launch} {e : Env} {s : State} {m : MethodId} {args : Array Value} {below : List Frame} {meth : Method} {c : Code} {G : Gw} {b9 : Nat} {Q : State → Prop} {x0 : (Nat → Int32)} {L9 : Nat} (C0 : Mx p s m c code 9 args yL_law.cls G) (Y : My meth (some .boolean)) (hl9 : l.stackTraces = false) (hX9 : va_X b9 L9 x0 s s.heap) (hbl9 : b9 < s.heap.size) (hbA9 : ¬ Ab G.b b9) (hend9 : ∀ (pc : Nat) (H : Heap) (locs : List Loc) (ls : Array Slot) (cells slots : Nat), decode code pc = .ok (.ireturn, 1) → va_S (Ab G.b) s.heap H locs → cells ≤ 603072 → slots ≤ 7198826 → W p l e room_1 s m args below meth c H locs cells slots Q (F0 m pc ls [.int 1])) {n9_28 : Nat} {k28 : Hp → Nat → Nat → Nat → Nat → Int32 → Prop} (hk28 : ∀ (S : Hp) (v1 : Nat) (v2 : Nat) (v3 : Nat) (v4 : Nat) (v5 : Int32) (H : Heap) (locs : List Loc) (ls : Array Slot) (cells slots : Nat), k28 S v1 v2 v3 v4 v5 → Ok G S H → va_S (Ab G.b) s.heap H locs → lv_has ls 9 [(0, .ref b9), (1, .ref v1), (2, .ref v2), (3, .ref v3), (4, .ref v4), (5, .int v5)] → cells + (n9_28 * 97 + 97) ≤ 603072 → slots + (n9_28 * 2225 + 2225) ≤ 7198826 → W p l e room_1 s m args below meth c H locs cells slots Q (F0 m 28 ls [])) : ∀ (S : Hp) (v1 : Nat) (v2 : Nat) (v3 : Nat) (v4 : Nat) (v5 : Int32) (H : Heap) (locs : List Loc) (ls : Array Slot) (cells slots : Nat), wL_law_b2348 x0 L9 k28 S v1 v2 v3 v4 v5 → Ok G S H → va_S (Ab G.b) s.heap H locs → lv_has ls 9 [(0, .ref b9), (1, .ref v1), (2, .ref v2), (3, .ref v3), (4, .ref v4), (5, .int v5)] → cells + (n9_28 * 97 + 104) ≤ 603072 → slots + (n9_28 * 2225 + 2261) ≤ 7198826 → W p l e room_1 s m args below meth c H locs cells slots Q (F0 m 2348 ls []) := by
  intro S v1 v2 v3 v4 v5 H locs ls cells slots h hO hS hl hcc hss
  unfold wL_law_b2348 at h
  refine lv_aload_n C0.1 C0.2.1 dL_law_2348 rfl (lv_at hl 1 rfl) ?_
  refine lv_aload_n C0.1 C0.2.1 dL_law_2349 rfl (lv_at hl 0 rfl) ?_
  refine lv_iload C0.1 C0.2.1 dL_law_2350 (lv_at hl 5 rfl) ?_
  refine lv_iconst (v := 1) C0.1 C0.2.1 dL_law_2352 (by decide) ?_
  refine lv_iadd C0.1 C0.2.1 dL_law_2353 ?_
  obtain ⟨e1, h⟩ := h
  refine va_sld C0.1 C0.2.1 hX9 hbl9 hbA9 hS e1 dL_law_2354 ?_
  refine lv_aload_n C0.1 C0.2.1 dL_law_2355 rfl (lv_at hl 0 rfl) ?_
  refine lv_iload C0.1 C0.2.1 dL_law_2356 (lv_at hl 5 rfl) ?_
  refine lv_iconst (v := 2) C0.1 C0.2.1 dL_law_2358 (by decide) ?_
  refine lv_iadd C0.1 C0.2.1 dL_law_2359 ?_
  obtain ⟨e2, h⟩ := h
  refine va_sld C0.1 C0.2.1 hX9 hbl9 hbA9 hS e2 dL_law_2360 ?_
  refine lv_aload_n C0.1 C0.2.1 dL_law_2361 rfl (lv_at hl 0 rfl) ?_
  refine lv_iload C0.1 C0.2.1 dL_law_2362 (lv_at hl 5 rfl) ?_
  refine lv_iconst (v := 3) C0.1 C0.2.1 dL_law_2364 (by decide) ?_
  refine lv_iadd C0.1 C0.2.1 dL_law_2365 ?_
  obtain ⟨e3, h⟩ := h
  refine va_sld C0.1 C0.2.1 hX9 hbl9 hbA9 hS e3 dL_law_2366 ?_
  refine lv_aload_n C0.1 C0.2.1 dL_law_2367 rfl (lv_at hl 0 rfl) ?_
  refine lv_iload C0.1 C0.2.1 dL_law_2368 (lv_at hl 5 rfl) ?_
  refine lv_iconst (v := 4) C0.1 C0.2.1 dL_law_2370 (by decide) ?_
  refine lv_iadd C0.1 C0.2.1 dL_law_2371 ?_
  obtain ⟨e4, h⟩ := h
  refine va_sld C0.1 C0.2.1 hX9 hbl9 hbA9 hS e4 dL_law_2372 ?_
  refine lv_aload_n C0.1 C0.2.1 dL_law_2373 rfl (lv_at hl 0 rfl) ?_
  refine lv_iload C0.1 C0.2.1 dL_law_2374 (lv_at hl 5 rfl) ?_
  refine lv_iconst (v := 5) C0.1 C0.2.1 dL_law_2376 (by decide) ?_
  refine lv_iadd C0.1 C0.2.1 dL_law_2377 ?_
  obtain ⟨e5, h⟩ := h
  refine va_sld C0.1 C0.2.1 hX9 hbl9 hbA9 hS e5 dL_law_2378 ?_
  refine lv_if_eq (tgt := 2386) C0.1 C0.2.1 dL_law_2379 (by decide) (fun c6 => ?_) (fun c6 => ?_)
  · replace h := h.1 c6
    refine lv_iconst (v := 0) C0.1 C0.2.1 dL_law_2386 (by decide) ?_
    exact bL_law_b2387 C0 Y hl9 hX9 hbl9 hbA9 hend9 hk28 _ _ _ _ _ _ _ _ _ _ _ _ _ _ _ _ _ h hO hS (lv_sub hl [0, 1, 2, 3, 4, 5] rfl) (by clear h; omega) (by clear h; omega)
  · replace h := h.2 c6
    refine lv_iconst (v := 1) C0.1 C0.2.1 dL_law_2382 (by decide) ?_
    refine lv_goto (tgt := 2387) C0.1 C0.2.1 dL_law_2383 (by decide) ?_
    exact bL_law_b2387 C0 Y hl9 hX9 hbl9 hbA9 hend9 hk28 _ _ _ _ _ _ _ _ _ _ _ _ _ _ _ _ _ h hO hS (lv_sub hl [0, 1, 2, 3, 4, 5] rfl) (by clear h; omega) (by clear h; omega)
def wL_law_b2583 (x0 : (Nat → Int32)) (L9 : Nat) (k28 : Hp → Nat → Nat → Nat → Nat → Int32 → Prop) (S : Hp) (v1 : Nat) (v2 : Nat) (v3 : Nat) (v4 : Nat) (v5 : Int32) : Prop := wL_law_b3146 x0 L9 k28 S v1 v2 v3 v4 v5
set_option maxHeartbeats 4000000 in
set_option maxRecDepth 100000 in
theorem bL_law_b2583 {p : Program} {l : Launch} {e : Env} {s : State} {m : MethodId} {args : Array Value} {below : List Frame} {meth : Method} {c : Code} {G : Gw} {b9 : Nat} {Q : State → Prop} {x0 : (Nat → Int32)} {L9 : Nat} (C0 : Mx p s m c code 9 args yL_law.cls G) (Y : My meth (some .boolean)) (hl9 : l.stackTraces = false) (hX9 : va_X b9 L9 x0 s s.heap) (hbl9 : b9 < s.heap.size) (hbA9 : ¬ Ab G.b b9) (hend9 : ∀ (pc : Nat) (H : Heap) (locs : List Loc) (ls : Array Slot) (cells slots : Nat), decode code pc = .ok (.ireturn, 1) → va_S (Ab G.b) s.heap H locs → cells ≤ 603072 → slots ≤ 7198826 → W p l e room_1 s m args below meth c H locs cells slots Q (F0 m pc ls [.int 1])) {n9_28 : Nat} {k28 : Hp → Nat → Nat → Nat → Nat → Int32 → Prop} (hk28 : ∀ (S : Hp) (v1 : Nat) (v2 : Nat) (v3 : Nat) (v4 : Nat) (v5 : Int32) (H : Heap) (locs : List Loc) (ls : Array Slot) (cells slots : Nat), k28 S v1 v2 v3 v4 v5 → Ok G S H → va_S (Ab G.b) s.heap H locs → lv_has ls 9 [(0, .ref b9), (1, .ref v1), (2, .ref v2), (3, .ref v3), (4, .ref v4), (5, .int v5)] → cells + (n9_28 * 97 + 97) ≤ 603072 → slots + (n9_28 * 2225 + 2225) ≤ 7198826 → W p l e room_1 s m args below meth c H locs cells slots Q (F0 m 28 ls [])) : ∀ (S : Hp) (v1 : Nat) (v2 : Nat) (v3 : Nat) (v4 : Nat) (v5 : Int32) (H : Heap) (locs : List Loc) (ls : Array Slot) (cells slots : Nat), wL_law_b2583 x0 L9 k28 S v1 v2 v3 v4 v5 → Ok G S H → va_S (Ab G.b) s.heap H locs → lv_has ls 9 [(0, .ref b9), (1, .ref v1), (2, .ref v2), (3, .ref v3), (4, .ref v4), (5, .int v5)] → cells + (n9_28 * 97 + 97) ≤ 603072 → slots + (n9_28 * 2225 + 2225) ≤ 7198826 → W p l e room_1 s m args below meth c H locs cells slots Q (F0 m 2583 ls []) := by
  intro S v1 v2 v3 v4 v5 H locs ls cells slots h hO hS hl hcc hss
  unfold wL_law_b2583 at h
  refine lv_goto (tgt := 3146) C0.1 C0.2.1 dL_law_2583 (by decide) ?_
  exact bL_law_b3146 C0 Y hl9 hX9 hbl9 hbA9 hend9 hk28 _ _ _ _ _ _ _ _ _ _ _ h hO hS (lv_sub hl [0, 1, 2, 3, 4, 5] rfl) (by clear h; omega) (by clear h; omega)
def wL_law_b2551 (x0 : (Nat → Int32)) (L9 : Nat) (k28 : Hp → Nat → Nat → Nat → Nat → Int32 → Prop) (S : Hp) (v1 : Nat) (v2 : Nat) (v3 : Nat) (v4 : Nat) (v5 : Int32) (v6 : Int32) (z0 : Nat) (z1 : Int32) (z2 : Int32) (z3 : Int32) (z4 : Int32) (z5 : Int32) : Prop := isA S z0 8 ∧ wX8_limitUnder S z0 z1 z2 z3 z4 z5 (fun S1 r2 => isA S1 v2 8 ∧ wX8_thrown S1 v2 (fun S4 r5 => ((r5 = v6 → ((¬ v6 = 0 → wL_law_b2583 x0 L9 k28 S4 v1 v2 v3 v4 v5) ∧ (v6 = 0 → isA S4 v3 22 ∧ vp_in 0 (S4.N v3) ∧ (((lg_cmp (S4.AJ v3 ((0 : Int32).toNatClampNeg)) r2) = 0 → wL_law_b2583 x0 L9 k28 S4 v1 v2 v3 v4 v5) ∧ (¬ ((lg_cmp (S4.AJ v3 ((0 : Int32).toNatClampNeg)) r2) = 0) → False))))) ∧ (¬ (r5 = v6) → False))))
set_option maxHeartbeats 4000000 in
set_option maxRecDepth 100000 in
theorem bL_law_b2551 {p : Program} {l : Launch} {e : Env} {s : State} {m : MethodId} {args : Array Value} {below : List Frame} {meth : Method} {c : Code} {G : Gw} {b9 : Nat} {Q : State → Prop} {x0 : (Nat → Int32)} {L9 : Nat} (C0 : Mx p s m c code 9 args yL_law.cls G) (Y : My meth (some .boolean)) (hl9 : l.stackTraces = false) (hX9 : va_X b9 L9 x0 s s.heap) (hbl9 : b9 < s.heap.size) (hbA9 : ¬ Ab G.b b9) (hend9 : ∀ (pc : Nat) (H : Heap) (locs : List Loc) (ls : Array Slot) (cells slots : Nat), decode code pc = .ok (.ireturn, 1) → va_S (Ab G.b) s.heap H locs → cells ≤ 603072 → slots ≤ 7198826 → W p l e room_1 s m args below meth c H locs cells slots Q (F0 m pc ls [.int 1])) {n9_28 : Nat} {k28 : Hp → Nat → Nat → Nat → Nat → Int32 → Prop} (hk28 : ∀ (S : Hp) (v1 : Nat) (v2 : Nat) (v3 : Nat) (v4 : Nat) (v5 : Int32) (H : Heap) (locs : List Loc) (ls : Array Slot) (cells slots : Nat), k28 S v1 v2 v3 v4 v5 → Ok G S H → va_S (Ab G.b) s.heap H locs → lv_has ls 9 [(0, .ref b9), (1, .ref v1), (2, .ref v2), (3, .ref v3), (4, .ref v4), (5, .int v5)] → cells + (n9_28 * 97 + 97) ≤ 603072 → slots + (n9_28 * 2225 + 2225) ≤ 7198826 → W p l e room_1 s m args below meth c H locs cells slots Q (F0 m 28 ls [])) : ∀ (S : Hp) (v1 : Nat) (v2 : Nat) (v3 : Nat) (v4 : Nat) (v5 : Int32) (v6 : Int32) (z0 : Nat) (z1 : Int32) (z2 : Int32) (z3 : Int32) (z4 : Int32) (z5 : Int32) (H : Heap) (locs : List Loc) (ls : Array Slot) (cells slots : Nat), wL_law_b2551 x0 L9 k28 S v1 v2 v3 v4 v5 v6 z0 z1 z2 z3 z4 z5 → Ok G S H → va_S (Ab G.b) s.heap H locs → lv_has ls 9 [(0, .ref b9), (1, .ref v1), (2, .ref v2), (3, .ref v3), (4, .ref v4), (5, .int v5), (6, .int v6)] → cells + (n9_28 * 97 + 97) ≤ 603072 → slots + (n9_28 * 2225 + 2225) ≤ 7198826 → W p l e room_1 s m args below meth c H locs cells slots Q (F0 m 2551 ls [.int z5, .int z4, .int z3, .int z2, .int z1, .ref z0]) := by
  intro S v1 v2 v3 v4 v5 v6 z0 z1 z2 z3 z4 z5 H locs ls cells slots h hO hS hl hcc hss
  unfold wL_law_b2551 at h
  obtain ⟨i3, h⟩ := h
  refine c_V C0 hO hS (mX8_limitUnder h) i3 (by decide) rfl rfl tb_1736 tb_1737 tb_1738 tb_81 tb_1739 hd_X8_limitUnder rfl ⟨⟨by decide, by decide⟩, by show _ + 0 ≤ 603072; omega, by show _ + 0 ≤ 7198826; omega⟩ hl.1 rfl (Nat.le_of_ble_eq_true rfl) dL_law_2551 (kJ (fun r2 S1 H locs h hO hS => ?_))
  change W _ _ _ _ _ _ _ _ _ _ _ _ (_ + 0) (_ + 0) _ _
  refine lv_lstore C0.1 C0.2.1 dL_law_2554 hl (by decide) rfl (fun ls hl => ?_)
  refine lv_aload_n C0.1 C0.2.1 dL_law_2556 rfl (lv_at hl 3 rfl) ?_
  obtain ⟨i6, h⟩ := h
  refine c_V C0 hO hS (mX8_thrown h) i6 (by decide) rfl rfl tb_1443 tb_1444 tb_1445 tb_81 tb_1446 hd_X8_thrown rfl ⟨⟨by decide, by decide⟩, by show _ + 0 ≤ 603072; omega, by show _ + 0 ≤ 7198826; omega⟩ hl.1 rfl (Nat.le_of_ble_eq_true rfl) dL_law_2557 (kI (fun r5 S4 H locs h hO hS => ?_))
  change W _ _ _ _ _ _ _ _ _ _ _ _ (_ + 0) (_ + 0) _ _
  refine lv_iload C0.1 C0.2.1 dL_law_2560 (lv_at hl 7 rfl) ?_
  refine lv_icmp_eq (tgt := 2567) C0.1 C0.2.1 dL_law_2562 (by decide) (fun c7 => ?_) (fun c7 => ?_)
  · replace h := h.1 c7
    refine lv_iload C0.1 C0.2.1 dL_law_2567 (lv_at hl 7 rfl) ?_
    refine lv_if_ne (tgt := 2583) C0.1 C0.2.1 dL_law_2569 (by decide) (fun c8 => ?_) (fun c8 => ?_)
    · replace h := h.1 c8
      exact bL_law_b2583 C0 Y hl9 hX9 hbl9 hbA9 hend9 hk28 _ _ _ _ _ _ _ _ _ _ _ h hO hS (lv_sub hl [1, 2, 3, 4, 5, 6] rfl) (by clear h; omega) (by clear h; omega)
    · replace h := h.2 c8
      refine lv_aload_n C0.1 C0.2.1 dL_law_2572 rfl (lv_at hl 4 rfl) ?_
      refine lv_iconst (v := 0) C0.1 C0.2.1 dL_law_2573 (by decide) ?_
      obtain ⟨i9, h⟩ := h
      obtain ⟨e10, h⟩ := h
      refine r_lald C0 hO i9 e10 dL_law_2574 ?_
      refine lv_lload C0.1 C0.2.1 dL_law_2575 (lv_at hl 0 rfl) ?_
      refine W.lcmp C0.1 C0.2.1 dL_law_2577 ?_
      refine lv_if_eq (tgt := 2583) C0.1 C0.2.1 dL_law_2578 (by decide) (fun c11 => ?_) (fun c11 => ?_)
      · replace h := h.1 c11
        exact bL_law_b2583 C0 Y hl9 hX9 hbl9 hbA9 hend9 hk28 _ _ _ _ _ _ _ _ _ _ _ h hO hS (lv_sub hl [1, 2, 3, 4, 5, 6] rfl) (by clear h; omega) (by clear h; omega)
      · replace h := h.2 c11
        refine lv_iconst (v := 0) C0.1 C0.2.1 dL_law_2581 (by decide) ?_
        exact h.elim
  · replace h := h.2 c7
    refine lv_iconst (v := 0) C0.1 C0.2.1 dL_law_2565 (by decide) ?_
    exact h.elim
def wL_law_b2506 (x0 : (Nat → Int32)) (L9 : Nat) (k28 : Hp → Nat → Nat → Nat → Nat → Int32 → Prop) (S : Hp) (v1 : Nat) (v2 : Nat) (v3 : Nat) (v4 : Nat) (v5 : Int32) (z0 : Nat) (z1 : Int32) (z2 : Int32) (z3 : Int32) (z4 : Int32) (z5 : Int32) : Prop := wL_limitUnder S z0 z1 z2 z3 z4 z5 v3 (fun S1 r2 => vp_in (v5 + 1) L9 ∧ vp_in (v5 + 2) L9 ∧ vp_in (v5 + 3) L9 ∧ vp_in (v5 + 4) L9 ∧ vp_in (v5 + 5) L9 ∧ (((x0 (v5 + 5).toNatClampNeg) = 0 → wL_law_b2551 x0 L9 k28 S1 v1 v2 v3 v4 v5 r2 v2 (x0 (v5 + 1).toNatClampNeg) (x0 (v5 + 2).toNatClampNeg) (x0 (v5 + 3).toNatClampNeg) (x0 (v5 + 4).toNatClampNeg) 0) ∧ (¬ ((x0 (v5 + 5).toNatClampNeg) = 0) → wL_law_b2551 x0 L9 k28 S1 v1 v2 v3 v4 v5 r2 v2 (x0 (v5 + 1).toNatClampNeg) (x0 (v5 + 2).toNatClampNeg) (x0 (v5 + 3).toNatClampNeg) (x0 (v5 + 4).toNatClampNeg) 1)))
set_option maxHeartbeats 4000000 in
set_option maxRecDepth 100000 in
theorem bL_law_b2506 {p : Program} {l : Launch} {e : Env} {s : State} {m : MethodId} {args : Array Value} {below : List Frame} {meth : Method} {c : Code} {G : Gw} {b9 : Nat} {Q : State → Prop} {x0 : (Nat → Int32)} {L9 : Nat} (C0 : Mx p s m c code 9 args yL_law.cls G) (Y : My meth (some .boolean)) (hl9 : l.stackTraces = false) (hX9 : va_X b9 L9 x0 s s.heap) (hbl9 : b9 < s.heap.size) (hbA9 : ¬ Ab G.b b9) (hend9 : ∀ (pc : Nat) (H : Heap) (locs : List Loc) (ls : Array Slot) (cells slots : Nat), decode code pc = .ok (.ireturn, 1) → va_S (Ab G.b) s.heap H locs → cells ≤ 603072 → slots ≤ 7198826 → W p l e room_1 s m args below meth c H locs cells slots Q (F0 m pc ls [.int 1])) {n9_28 : Nat} {k28 : Hp → Nat → Nat → Nat → Nat → Int32 → Prop} (hk28 : ∀ (S : Hp) (v1 : Nat) (v2 : Nat) (v3 : Nat) (v4 : Nat) (v5 : Int32) (H : Heap) (locs : List Loc) (ls : Array Slot) (cells slots : Nat), k28 S v1 v2 v3 v4 v5 → Ok G S H → va_S (Ab G.b) s.heap H locs → lv_has ls 9 [(0, .ref b9), (1, .ref v1), (2, .ref v2), (3, .ref v3), (4, .ref v4), (5, .int v5)] → cells + (n9_28 * 97 + 97) ≤ 603072 → slots + (n9_28 * 2225 + 2225) ≤ 7198826 → W p l e room_1 s m args below meth c H locs cells slots Q (F0 m 28 ls [])) : ∀ (S : Hp) (v1 : Nat) (v2 : Nat) (v3 : Nat) (v4 : Nat) (v5 : Int32) (z0 : Nat) (z1 : Int32) (z2 : Int32) (z3 : Int32) (z4 : Int32) (z5 : Int32) (H : Heap) (locs : List Loc) (ls : Array Slot) (cells slots : Nat), wL_law_b2506 x0 L9 k28 S v1 v2 v3 v4 v5 z0 z1 z2 z3 z4 z5 → Ok G S H → va_S (Ab G.b) s.heap H locs → lv_has ls 9 [(0, .ref b9), (1, .ref v1), (2, .ref v2), (3, .ref v3), (4, .ref v4), (5, .int v5)] → cells + (n9_28 * 97 + 104) ≤ 603072 → slots + (n9_28 * 2225 + 2261) ≤ 7198826 → W p l e room_1 s m args below meth c H locs cells slots Q (F0 m 2506 ls [.int z5, .int z4, .int z3, .int z2, .int z1, .ref z0]) := by
  intro S v1 v2 v3 v4 v5 z0 z1 z2 z3 z4 z5 H locs ls cells slots h hO hS hl hcc hss
  unfold wL_law_b2506 at h
  refine lv_aload_n C0.1 C0.2.1 dL_law_2506 rfl (lv_at hl 3 rfl) ?_
  refine c_SW C0 hO hS (mL_limitUnder hl9 h) tb_1237 tb_1238 tb_73 tb_1239 hd_L_limitUnder rfl ⟨⟨by decide, by decide⟩, by show _ + 7 ≤ 603072; omega, by show _ + 36 ≤ 7198826; omega⟩ hl.1 rfl (Nat.le_of_ble_eq_true rfl) dL_law_2507 (kI (fun r2 S1 H locs h hO hS => ?_))
  change W _ _ _ _ _ _ _ _ _ _ _ _ (_ + 7) (_ + 36) _ _
  refine lv_istore C0.1 C0.2.1 dL_law_2510 hl (by decide) rfl (fun ls hl => ?_)
  refine lv_aload_n C0.1 C0.2.1 dL_law_2512 rfl (lv_at hl 3 rfl) ?_
  refine lv_aload_n C0.1 C0.2.1 dL_law_2513 rfl (lv_at hl 1 rfl) ?_
  refine lv_iload C0.1 C0.2.1 dL_law_2514 (lv_at hl 6 rfl) ?_
  refine lv_iconst (v := 1) C0.1 C0.2.1 dL_law_2516 (by decide) ?_
  refine lv_iadd C0.1 C0.2.1 dL_law_2517 ?_
  obtain ⟨e3, h⟩ := h
  refine va_sld C0.1 C0.2.1 hX9 hbl9 hbA9 hS e3 dL_law_2518 ?_
  refine lv_aload_n C0.1 C0.2.1 dL_law_2519 rfl (lv_at hl 1 rfl) ?_
  refine lv_iload C0.1 C0.2.1 dL_law_2520 (lv_at hl 6 rfl) ?_
  refine lv_iconst (v := 2) C0.1 C0.2.1 dL_law_2522 (by decide) ?_
  refine lv_iadd C0.1 C0.2.1 dL_law_2523 ?_
  obtain ⟨e4, h⟩ := h
  refine va_sld C0.1 C0.2.1 hX9 hbl9 hbA9 hS e4 dL_law_2524 ?_
  refine lv_aload_n C0.1 C0.2.1 dL_law_2525 rfl (lv_at hl 1 rfl) ?_
  refine lv_iload C0.1 C0.2.1 dL_law_2526 (lv_at hl 6 rfl) ?_
  refine lv_iconst (v := 3) C0.1 C0.2.1 dL_law_2528 (by decide) ?_
  refine lv_iadd C0.1 C0.2.1 dL_law_2529 ?_
  obtain ⟨e5, h⟩ := h
  refine va_sld C0.1 C0.2.1 hX9 hbl9 hbA9 hS e5 dL_law_2530 ?_
  refine lv_aload_n C0.1 C0.2.1 dL_law_2531 rfl (lv_at hl 1 rfl) ?_
  refine lv_iload C0.1 C0.2.1 dL_law_2532 (lv_at hl 6 rfl) ?_
  refine lv_iconst (v := 4) C0.1 C0.2.1 dL_law_2534 (by decide) ?_
  refine lv_iadd C0.1 C0.2.1 dL_law_2535 ?_
  obtain ⟨e6, h⟩ := h
  refine va_sld C0.1 C0.2.1 hX9 hbl9 hbA9 hS e6 dL_law_2536 ?_
  refine lv_aload_n C0.1 C0.2.1 dL_law_2537 rfl (lv_at hl 1 rfl) ?_
  refine lv_iload C0.1 C0.2.1 dL_law_2538 (lv_at hl 6 rfl) ?_
  refine lv_iconst (v := 5) C0.1 C0.2.1 dL_law_2540 (by decide) ?_
  refine lv_iadd C0.1 C0.2.1 dL_law_2541 ?_
  obtain ⟨e7, h⟩ := h
  refine va_sld C0.1 C0.2.1 hX9 hbl9 hbA9 hS e7 dL_law_2542 ?_
  refine lv_if_eq (tgt := 2550) C0.1 C0.2.1 dL_law_2543 (by decide) (fun c8 => ?_) (fun c8 => ?_)
  · replace h := h.1 c8
    refine lv_iconst (v := 0) C0.1 C0.2.1 dL_law_2550 (by decide) ?_
    exact bL_law_b2551 C0 Y hl9 hX9 hbl9 hbA9 hend9 hk28 _ _ _ _ _ _ _ _ _ _ _ _ _ _ _ _ _ _ h hO hS (lv_sub hl [1, 2, 3, 4, 5, 6, 0] rfl) (by clear h; omega) (by clear h; omega)
  · replace h := h.2 c8
    refine lv_iconst (v := 1) C0.1 C0.2.1 dL_law_2546 (by decide) ?_
    refine lv_goto (tgt := 2551) C0.1 C0.2.1 dL_law_2547 (by decide) ?_
    exact bL_law_b2551 C0 Y hl9 hX9 hbl9 hbA9 hend9 hk28 _ _ _ _ _ _ _ _ _ _ _ _ _ _ _ _ _ _ h hO hS (lv_sub hl [1, 2, 3, 4, 5, 6, 0] rfl) (by clear h; omega) (by clear h; omega)
def wL_law_b2467 (x0 : (Nat → Int32)) (L9 : Nat) (k28 : Hp → Nat → Nat → Nat → Nat → Int32 → Prop) (S : Hp) (v1 : Nat) (v2 : Nat) (v3 : Nat) (v4 : Nat) (v5 : Int32) : Prop := vp_in (v5 + 1) L9 ∧ vp_in (v5 + 2) L9 ∧ vp_in (v5 + 3) L9 ∧ vp_in (v5 + 4) L9 ∧ vp_in (v5 + 5) L9 ∧ (((x0 (v5 + 5).toNatClampNeg) = 0 → wL_law_b2506 x0 L9 k28 S v1 v2 v3 v4 v5 v1 (x0 (v5 + 1).toNatClampNeg) (x0 (v5 + 2).toNatClampNeg) (x0 (v5 + 3).toNatClampNeg) (x0 (v5 + 4).toNatClampNeg) 0) ∧ (¬ ((x0 (v5 + 5).toNatClampNeg) = 0) → wL_law_b2506 x0 L9 k28 S v1 v2 v3 v4 v5 v1 (x0 (v5 + 1).toNatClampNeg) (x0 (v5 + 2).toNatClampNeg) (x0 (v5 + 3).toNatClampNeg) (x0 (v5 + 4).toNatClampNeg) 1))
set_option maxHeartbeats 4000000 in
set_option maxRecDepth 100000 in
theorem bL_law_b2467 {p : Program} {l : Launch} {e : Env} {s : State} {m : MethodId} {args : Array Value} {below : List Frame} {meth : Method} {c : Code} {G : Gw} {b9 : Nat} {Q : State → Prop} {x0 : (Nat → Int32)} {L9 : Nat} (C0 : Mx p s m c code 9 args yL_law.cls G) (Y : My meth (some .boolean)) (hl9 : l.stackTraces = false) (hX9 : va_X b9 L9 x0 s s.heap) (hbl9 : b9 < s.heap.size) (hbA9 : ¬ Ab G.b b9) (hend9 : ∀ (pc : Nat) (H : Heap) (locs : List Loc) (ls : Array Slot) (cells slots : Nat), decode code pc = .ok (.ireturn, 1) → va_S (Ab G.b) s.heap H locs → cells ≤ 603072 → slots ≤ 7198826 → W p l e room_1 s m args below meth c H locs cells slots Q (F0 m pc ls [.int 1])) {n9_28 : Nat} {k28 : Hp → Nat → Nat → Nat → Nat → Int32 → Prop} (hk28 : ∀ (S : Hp) (v1 : Nat) (v2 : Nat) (v3 : Nat) (v4 : Nat) (v5 : Int32) (H : Heap) (locs : List Loc) (ls : Array Slot) (cells slots : Nat), k28 S v1 v2 v3 v4 v5 → Ok G S H → va_S (Ab G.b) s.heap H locs → lv_has ls 9 [(0, .ref b9), (1, .ref v1), (2, .ref v2), (3, .ref v3), (4, .ref v4), (5, .int v5)] → cells + (n9_28 * 97 + 97) ≤ 603072 → slots + (n9_28 * 2225 + 2225) ≤ 7198826 → W p l e room_1 s m args below meth c H locs cells slots Q (F0 m 28 ls [])) : ∀ (S : Hp) (v1 : Nat) (v2 : Nat) (v3 : Nat) (v4 : Nat) (v5 : Int32) (H : Heap) (locs : List Loc) (ls : Array Slot) (cells slots : Nat), wL_law_b2467 x0 L9 k28 S v1 v2 v3 v4 v5 → Ok G S H → va_S (Ab G.b) s.heap H locs → lv_has ls 9 [(0, .ref b9), (1, .ref v1), (2, .ref v2), (3, .ref v3), (4, .ref v4), (5, .int v5)] → cells + (n9_28 * 97 + 104) ≤ 603072 → slots + (n9_28 * 2225 + 2261) ≤ 7198826 → W p l e room_1 s m args below meth c H locs cells slots Q (F0 m 2467 ls []) := by
  intro S v1 v2 v3 v4 v5 H locs ls cells slots h hO hS hl hcc hss
  unfold wL_law_b2467 at h
  refine lv_aload_n C0.1 C0.2.1 dL_law_2467 rfl (lv_at hl 1 rfl) ?_
  refine lv_aload_n C0.1 C0.2.1 dL_law_2468 rfl (lv_at hl 0 rfl) ?_
  refine lv_iload C0.1 C0.2.1 dL_law_2469 (lv_at hl 5 rfl) ?_
  refine lv_iconst (v := 1) C0.1 C0.2.1 dL_law_2471 (by decide) ?_
  refine lv_iadd C0.1 C0.2.1 dL_law_2472 ?_
  obtain ⟨e1, h⟩ := h
  refine va_sld C0.1 C0.2.1 hX9 hbl9 hbA9 hS e1 dL_law_2473 ?_
  refine lv_aload_n C0.1 C0.2.1 dL_law_2474 rfl (lv_at hl 0 rfl) ?_
  refine lv_iload C0.1 C0.2.1 dL_law_2475 (lv_at hl 5 rfl) ?_
  refine lv_iconst (v := 2) C0.1 C0.2.1 dL_law_2477 (by decide) ?_
  refine lv_iadd C0.1 C0.2.1 dL_law_2478 ?_
  obtain ⟨e2, h⟩ := h
  refine va_sld C0.1 C0.2.1 hX9 hbl9 hbA9 hS e2 dL_law_2479 ?_
  refine lv_aload_n C0.1 C0.2.1 dL_law_2480 rfl (lv_at hl 0 rfl) ?_
  refine lv_iload C0.1 C0.2.1 dL_law_2481 (lv_at hl 5 rfl) ?_
  refine lv_iconst (v := 3) C0.1 C0.2.1 dL_law_2483 (by decide) ?_
  refine lv_iadd C0.1 C0.2.1 dL_law_2484 ?_
  obtain ⟨e3, h⟩ := h
  refine va_sld C0.1 C0.2.1 hX9 hbl9 hbA9 hS e3 dL_law_2485 ?_
  refine lv_aload_n C0.1 C0.2.1 dL_law_2486 rfl (lv_at hl 0 rfl) ?_
  refine lv_iload C0.1 C0.2.1 dL_law_2487 (lv_at hl 5 rfl) ?_
  refine lv_iconst (v := 4) C0.1 C0.2.1 dL_law_2489 (by decide) ?_
  refine lv_iadd C0.1 C0.2.1 dL_law_2490 ?_
  obtain ⟨e4, h⟩ := h
  refine va_sld C0.1 C0.2.1 hX9 hbl9 hbA9 hS e4 dL_law_2491 ?_
  refine lv_aload_n C0.1 C0.2.1 dL_law_2492 rfl (lv_at hl 0 rfl) ?_
  refine lv_iload C0.1 C0.2.1 dL_law_2493 (lv_at hl 5 rfl) ?_
  refine lv_iconst (v := 5) C0.1 C0.2.1 dL_law_2495 (by decide) ?_
  refine lv_iadd C0.1 C0.2.1 dL_law_2496 ?_
  obtain ⟨e5, h⟩ := h
  refine va_sld C0.1 C0.2.1 hX9 hbl9 hbA9 hS e5 dL_law_2497 ?_
  refine lv_if_eq (tgt := 2505) C0.1 C0.2.1 dL_law_2498 (by decide) (fun c6 => ?_) (fun c6 => ?_)
  · replace h := h.1 c6
    refine lv_iconst (v := 0) C0.1 C0.2.1 dL_law_2505 (by decide) ?_
    exact bL_law_b2506 C0 Y hl9 hX9 hbl9 hbA9 hend9 hk28 _ _ _ _ _ _ _ _ _ _ _ _ _ _ _ _ _ h hO hS (lv_sub hl [0, 1, 2, 3, 4, 5] rfl) (by clear h; omega) (by clear h; omega)
  · replace h := h.2 c6
    refine lv_iconst (v := 1) C0.1 C0.2.1 dL_law_2501 (by decide) ?_
    refine lv_goto (tgt := 2506) C0.1 C0.2.1 dL_law_2502 (by decide) ?_
    exact bL_law_b2506 C0 Y hl9 hX9 hbl9 hbA9 hend9 hk28 _ _ _ _ _ _ _ _ _ _ _ _ _ _ _ _ _ h hO hS (lv_sub hl [0, 1, 2, 3, 4, 5] rfl) (by clear h; omega) (by clear h; omega)
def wL_law_b2702 (x0 : (Nat → Int32)) (L9 : Nat) (k28 : Hp → Nat → Nat → Nat → Nat → Int32 → Prop) (S : Hp) (v1 : Nat) (v2 : Nat) (v3 : Nat) (v4 : Nat) (v5 : Int32) : Prop := wL_law_b3146 x0 L9 k28 S v1 v2 v3 v4 v5
set_option maxHeartbeats 4000000 in
set_option maxRecDepth 100000 in
theorem bL_law_b2702 {p : Program} {l : Launch} {e : Env} {s : State} {m : MethodId} {args : Array Value} {below : List Frame} {meth : Method} {c : Code} {G : Gw} {b9 : Nat} {Q : State → Prop} {x0 : (Nat → Int32)} {L9 : Nat} (C0 : Mx p s m c code 9 args yL_law.cls G) (Y : My meth (some .boolean)) (hl9 : l.stackTraces = false) (hX9 : va_X b9 L9 x0 s s.heap) (hbl9 : b9 < s.heap.size) (hbA9 : ¬ Ab G.b b9) (hend9 : ∀ (pc : Nat) (H : Heap) (locs : List Loc) (ls : Array Slot) (cells slots : Nat), decode code pc = .ok (.ireturn, 1) → va_S (Ab G.b) s.heap H locs → cells ≤ 603072 → slots ≤ 7198826 → W p l e room_1 s m args below meth c H locs cells slots Q (F0 m pc ls [.int 1])) {n9_28 : Nat} {k28 : Hp → Nat → Nat → Nat → Nat → Int32 → Prop} (hk28 : ∀ (S : Hp) (v1 : Nat) (v2 : Nat) (v3 : Nat) (v4 : Nat) (v5 : Int32) (H : Heap) (locs : List Loc) (ls : Array Slot) (cells slots : Nat), k28 S v1 v2 v3 v4 v5 → Ok G S H → va_S (Ab G.b) s.heap H locs → lv_has ls 9 [(0, .ref b9), (1, .ref v1), (2, .ref v2), (3, .ref v3), (4, .ref v4), (5, .int v5)] → cells + (n9_28 * 97 + 97) ≤ 603072 → slots + (n9_28 * 2225 + 2225) ≤ 7198826 → W p l e room_1 s m args below meth c H locs cells slots Q (F0 m 28 ls [])) : ∀ (S : Hp) (v1 : Nat) (v2 : Nat) (v3 : Nat) (v4 : Nat) (v5 : Int32) (H : Heap) (locs : List Loc) (ls : Array Slot) (cells slots : Nat), wL_law_b2702 x0 L9 k28 S v1 v2 v3 v4 v5 → Ok G S H → va_S (Ab G.b) s.heap H locs → lv_has ls 9 [(0, .ref b9), (1, .ref v1), (2, .ref v2), (3, .ref v3), (4, .ref v4), (5, .int v5)] → cells + (n9_28 * 97 + 97) ≤ 603072 → slots + (n9_28 * 2225 + 2225) ≤ 7198826 → W p l e room_1 s m args below meth c H locs cells slots Q (F0 m 2702 ls []) := by
  intro S v1 v2 v3 v4 v5 H locs ls cells slots h hO hS hl hcc hss
  unfold wL_law_b2702 at h
  refine lv_goto (tgt := 3146) C0.1 C0.2.1 dL_law_2702 (by decide) ?_
  exact bL_law_b3146 C0 Y hl9 hX9 hbl9 hbA9 hend9 hk28 _ _ _ _ _ _ _ _ _ _ _ h hO hS (lv_sub hl [0, 1, 2, 3, 4, 5] rfl) (by clear h; omega) (by clear h; omega)
def wL_law_b2670 (x0 : (Nat → Int32)) (L9 : Nat) (k28 : Hp → Nat → Nat → Nat → Nat → Int32 → Prop) (S : Hp) (v1 : Nat) (v2 : Nat) (v3 : Nat) (v4 : Nat) (v5 : Int32) (v6 : Int32) (z0 : Nat) (z1 : Int32) (z2 : Int32) (z3 : Int32) (z4 : Int32) (z5 : Int32) : Prop := isA S z0 8 ∧ wX8_angleOver S z0 z1 z2 z3 z4 z5 (fun S1 r2 => isA S1 v2 8 ∧ wX8_thrown S1 v2 (fun S4 r5 => ((r5 = v6 → ((¬ v6 = 0 → wL_law_b2702 x0 L9 k28 S4 v1 v2 v3 v4 v5) ∧ (v6 = 0 → isA S4 v3 22 ∧ vp_in 0 (S4.N v3) ∧ (((lg_cmp (S4.AJ v3 ((0 : Int32).toNatClampNeg)) r2) = 0 → wL_law_b2702 x0 L9 k28 S4 v1 v2 v3 v4 v5) ∧ (¬ ((lg_cmp (S4.AJ v3 ((0 : Int32).toNatClampNeg)) r2) = 0) → False))))) ∧ (¬ (r5 = v6) → False))))
set_option maxHeartbeats 4000000 in
set_option maxRecDepth 100000 in
theorem bL_law_b2670 {p : Program} {l : Launch} {e : Env} {s : State} {m : MethodId} {args : Array Value} {below : List Frame} {meth : Method} {c : Code} {G : Gw} {b9 : Nat} {Q : State → Prop} {x0 : (Nat → Int32)} {L9 : Nat} (C0 : Mx p s m c code 9 args yL_law.cls G) (Y : My meth (some .boolean)) (hl9 : l.stackTraces = false) (hX9 : va_X b9 L9 x0 s s.heap) (hbl9 : b9 < s.heap.size) (hbA9 : ¬ Ab G.b b9) (hend9 : ∀ (pc : Nat) (H : Heap) (locs : List Loc) (ls : Array Slot) (cells slots : Nat), decode code pc = .ok (.ireturn, 1) → va_S (Ab G.b) s.heap H locs → cells ≤ 603072 → slots ≤ 7198826 → W p l e room_1 s m args below meth c H locs cells slots Q (F0 m pc ls [.int 1])) {n9_28 : Nat} {k28 : Hp → Nat → Nat → Nat → Nat → Int32 → Prop} (hk28 : ∀ (S : Hp) (v1 : Nat) (v2 : Nat) (v3 : Nat) (v4 : Nat) (v5 : Int32) (H : Heap) (locs : List Loc) (ls : Array Slot) (cells slots : Nat), k28 S v1 v2 v3 v4 v5 → Ok G S H → va_S (Ab G.b) s.heap H locs → lv_has ls 9 [(0, .ref b9), (1, .ref v1), (2, .ref v2), (3, .ref v3), (4, .ref v4), (5, .int v5)] → cells + (n9_28 * 97 + 97) ≤ 603072 → slots + (n9_28 * 2225 + 2225) ≤ 7198826 → W p l e room_1 s m args below meth c H locs cells slots Q (F0 m 28 ls [])) : ∀ (S : Hp) (v1 : Nat) (v2 : Nat) (v3 : Nat) (v4 : Nat) (v5 : Int32) (v6 : Int32) (z0 : Nat) (z1 : Int32) (z2 : Int32) (z3 : Int32) (z4 : Int32) (z5 : Int32) (H : Heap) (locs : List Loc) (ls : Array Slot) (cells slots : Nat), wL_law_b2670 x0 L9 k28 S v1 v2 v3 v4 v5 v6 z0 z1 z2 z3 z4 z5 → Ok G S H → va_S (Ab G.b) s.heap H locs → lv_has ls 9 [(0, .ref b9), (1, .ref v1), (2, .ref v2), (3, .ref v3), (4, .ref v4), (5, .int v5), (6, .int v6)] → cells + (n9_28 * 97 + 97) ≤ 603072 → slots + (n9_28 * 2225 + 2225) ≤ 7198826 → W p l e room_1 s m args below meth c H locs cells slots Q (F0 m 2670 ls [.int z5, .int z4, .int z3, .int z2, .int z1, .ref z0]) := by
  intro S v1 v2 v3 v4 v5 v6 z0 z1 z2 z3 z4 z5 H locs ls cells slots h hO hS hl hcc hss
  unfold wL_law_b2670 at h
  obtain ⟨i3, h⟩ := h
  refine c_V C0 hO hS (mX8_angleOver h) i3 (by decide) rfl rfl tb_1740 tb_1741 tb_1742 tb_81 tb_1743 hd_X8_angleOver rfl ⟨⟨by decide, by decide⟩, by show _ + 0 ≤ 603072; omega, by show _ + 0 ≤ 7198826; omega⟩ hl.1 rfl (Nat.le_of_ble_eq_true rfl) dL_law_2670 (kJ (fun r2 S1 H locs h hO hS => ?_))
  change W _ _ _ _ _ _ _ _ _ _ _ _ (_ + 0) (_ + 0) _ _
  refine lv_lstore C0.1 C0.2.1 dL_law_2673 hl (by decide) rfl (fun ls hl => ?_)
  refine lv_aload_n C0.1 C0.2.1 dL_law_2675 rfl (lv_at hl 3 rfl) ?_
  obtain ⟨i6, h⟩ := h
  refine c_V C0 hO hS (mX8_thrown h) i6 (by decide) rfl rfl tb_1443 tb_1444 tb_1445 tb_81 tb_1446 hd_X8_thrown rfl ⟨⟨by decide, by decide⟩, by show _ + 0 ≤ 603072; omega, by show _ + 0 ≤ 7198826; omega⟩ hl.1 rfl (Nat.le_of_ble_eq_true rfl) dL_law_2676 (kI (fun r5 S4 H locs h hO hS => ?_))
  change W _ _ _ _ _ _ _ _ _ _ _ _ (_ + 0) (_ + 0) _ _
  refine lv_iload C0.1 C0.2.1 dL_law_2679 (lv_at hl 7 rfl) ?_
  refine lv_icmp_eq (tgt := 2686) C0.1 C0.2.1 dL_law_2681 (by decide) (fun c7 => ?_) (fun c7 => ?_)
  · replace h := h.1 c7
    refine lv_iload C0.1 C0.2.1 dL_law_2686 (lv_at hl 7 rfl) ?_
    refine lv_if_ne (tgt := 2702) C0.1 C0.2.1 dL_law_2688 (by decide) (fun c8 => ?_) (fun c8 => ?_)
    · replace h := h.1 c8
      exact bL_law_b2702 C0 Y hl9 hX9 hbl9 hbA9 hend9 hk28 _ _ _ _ _ _ _ _ _ _ _ h hO hS (lv_sub hl [1, 2, 3, 4, 5, 6] rfl) (by clear h; omega) (by clear h; omega)
    · replace h := h.2 c8
      refine lv_aload_n C0.1 C0.2.1 dL_law_2691 rfl (lv_at hl 4 rfl) ?_
      refine lv_iconst (v := 0) C0.1 C0.2.1 dL_law_2692 (by decide) ?_
      obtain ⟨i9, h⟩ := h
      obtain ⟨e10, h⟩ := h
      refine r_lald C0 hO i9 e10 dL_law_2693 ?_
      refine lv_lload C0.1 C0.2.1 dL_law_2694 (lv_at hl 0 rfl) ?_
      refine W.lcmp C0.1 C0.2.1 dL_law_2696 ?_
      refine lv_if_eq (tgt := 2702) C0.1 C0.2.1 dL_law_2697 (by decide) (fun c11 => ?_) (fun c11 => ?_)
      · replace h := h.1 c11
        exact bL_law_b2702 C0 Y hl9 hX9 hbl9 hbA9 hend9 hk28 _ _ _ _ _ _ _ _ _ _ _ h hO hS (lv_sub hl [1, 2, 3, 4, 5, 6] rfl) (by clear h; omega) (by clear h; omega)
      · replace h := h.2 c11
        refine lv_iconst (v := 0) C0.1 C0.2.1 dL_law_2700 (by decide) ?_
        exact h.elim
  · replace h := h.2 c7
    refine lv_iconst (v := 0) C0.1 C0.2.1 dL_law_2684 (by decide) ?_
    exact h.elim
def wL_law_b2625 (x0 : (Nat → Int32)) (L9 : Nat) (k28 : Hp → Nat → Nat → Nat → Nat → Int32 → Prop) (S : Hp) (v1 : Nat) (v2 : Nat) (v3 : Nat) (v4 : Nat) (v5 : Int32) (z0 : Nat) (z1 : Int32) (z2 : Int32) (z3 : Int32) (z4 : Int32) (z5 : Int32) : Prop := wL_angleOver S z0 z1 z2 z3 z4 z5 v3 (fun S1 r2 => vp_in (v5 + 1) L9 ∧ vp_in (v5 + 2) L9 ∧ vp_in (v5 + 3) L9 ∧ vp_in (v5 + 4) L9 ∧ vp_in (v5 + 5) L9 ∧ (((x0 (v5 + 5).toNatClampNeg) = 0 → wL_law_b2670 x0 L9 k28 S1 v1 v2 v3 v4 v5 r2 v2 (x0 (v5 + 1).toNatClampNeg) (x0 (v5 + 2).toNatClampNeg) (x0 (v5 + 3).toNatClampNeg) (x0 (v5 + 4).toNatClampNeg) 0) ∧ (¬ ((x0 (v5 + 5).toNatClampNeg) = 0) → wL_law_b2670 x0 L9 k28 S1 v1 v2 v3 v4 v5 r2 v2 (x0 (v5 + 1).toNatClampNeg) (x0 (v5 + 2).toNatClampNeg) (x0 (v5 + 3).toNatClampNeg) (x0 (v5 + 4).toNatClampNeg) 1)))
set_option maxHeartbeats 4000000 in
set_option maxRecDepth 100000 in
theorem bL_law_b2625 {p : Program} {l : Launch} {e : Env} {s : State} {m : MethodId} {args : Array Value} {below : List Frame} {meth : Method} {c : Code} {G : Gw} {b9 : Nat} {Q : State → Prop} {x0 : (Nat → Int32)} {L9 : Nat} (C0 : Mx p s m c code 9 args yL_law.cls G) (Y : My meth (some .boolean)) (hl9 : l.stackTraces = false) (hX9 : va_X b9 L9 x0 s s.heap) (hbl9 : b9 < s.heap.size) (hbA9 : ¬ Ab G.b b9) (hend9 : ∀ (pc : Nat) (H : Heap) (locs : List Loc) (ls : Array Slot) (cells slots : Nat), decode code pc = .ok (.ireturn, 1) → va_S (Ab G.b) s.heap H locs → cells ≤ 603072 → slots ≤ 7198826 → W p l e room_1 s m args below meth c H locs cells slots Q (F0 m pc ls [.int 1])) {n9_28 : Nat} {k28 : Hp → Nat → Nat → Nat → Nat → Int32 → Prop} (hk28 : ∀ (S : Hp) (v1 : Nat) (v2 : Nat) (v3 : Nat) (v4 : Nat) (v5 : Int32) (H : Heap) (locs : List Loc) (ls : Array Slot) (cells slots : Nat), k28 S v1 v2 v3 v4 v5 → Ok G S H → va_S (Ab G.b) s.heap H locs → lv_has ls 9 [(0, .ref b9), (1, .ref v1), (2, .ref v2), (3, .ref v3), (4, .ref v4), (5, .int v5)] → cells + (n9_28 * 97 + 97) ≤ 603072 → slots + (n9_28 * 2225 + 2225) ≤ 7198826 → W p l e room_1 s m args below meth c H locs cells slots Q (F0 m 28 ls [])) : ∀ (S : Hp) (v1 : Nat) (v2 : Nat) (v3 : Nat) (v4 : Nat) (v5 : Int32) (z0 : Nat) (z1 : Int32) (z2 : Int32) (z3 : Int32) (z4 : Int32) (z5 : Int32) (H : Heap) (locs : List Loc) (ls : Array Slot) (cells slots : Nat), wL_law_b2625 x0 L9 k28 S v1 v2 v3 v4 v5 z0 z1 z2 z3 z4 z5 → Ok G S H → va_S (Ab G.b) s.heap H locs → lv_has ls 9 [(0, .ref b9), (1, .ref v1), (2, .ref v2), (3, .ref v3), (4, .ref v4), (5, .int v5)] → cells + (n9_28 * 97 + 104) ≤ 603072 → slots + (n9_28 * 2225 + 2261) ≤ 7198826 → W p l e room_1 s m args below meth c H locs cells slots Q (F0 m 2625 ls [.int z5, .int z4, .int z3, .int z2, .int z1, .ref z0]) := by
  intro S v1 v2 v3 v4 v5 z0 z1 z2 z3 z4 z5 H locs ls cells slots h hO hS hl hcc hss
  unfold wL_law_b2625 at h
  refine lv_aload_n C0.1 C0.2.1 dL_law_2625 rfl (lv_at hl 3 rfl) ?_
  refine c_SW C0 hO hS (mL_angleOver hl9 h) tb_1244 tb_1245 tb_73 tb_1246 hd_L_angleOver rfl ⟨⟨by decide, by decide⟩, by show _ + 7 ≤ 603072; omega, by show _ + 36 ≤ 7198826; omega⟩ hl.1 rfl (Nat.le_of_ble_eq_true rfl) dL_law_2626 (kI (fun r2 S1 H locs h hO hS => ?_))
  change W _ _ _ _ _ _ _ _ _ _ _ _ (_ + 7) (_ + 36) _ _
  refine lv_istore C0.1 C0.2.1 dL_law_2629 hl (by decide) rfl (fun ls hl => ?_)
  refine lv_aload_n C0.1 C0.2.1 dL_law_2631 rfl (lv_at hl 3 rfl) ?_
  refine lv_aload_n C0.1 C0.2.1 dL_law_2632 rfl (lv_at hl 1 rfl) ?_
  refine lv_iload C0.1 C0.2.1 dL_law_2633 (lv_at hl 6 rfl) ?_
  refine lv_iconst (v := 1) C0.1 C0.2.1 dL_law_2635 (by decide) ?_
  refine lv_iadd C0.1 C0.2.1 dL_law_2636 ?_
  obtain ⟨e3, h⟩ := h
  refine va_sld C0.1 C0.2.1 hX9 hbl9 hbA9 hS e3 dL_law_2637 ?_
  refine lv_aload_n C0.1 C0.2.1 dL_law_2638 rfl (lv_at hl 1 rfl) ?_
  refine lv_iload C0.1 C0.2.1 dL_law_2639 (lv_at hl 6 rfl) ?_
  refine lv_iconst (v := 2) C0.1 C0.2.1 dL_law_2641 (by decide) ?_
  refine lv_iadd C0.1 C0.2.1 dL_law_2642 ?_
  obtain ⟨e4, h⟩ := h
  refine va_sld C0.1 C0.2.1 hX9 hbl9 hbA9 hS e4 dL_law_2643 ?_
  refine lv_aload_n C0.1 C0.2.1 dL_law_2644 rfl (lv_at hl 1 rfl) ?_
  refine lv_iload C0.1 C0.2.1 dL_law_2645 (lv_at hl 6 rfl) ?_
  refine lv_iconst (v := 3) C0.1 C0.2.1 dL_law_2647 (by decide) ?_
  refine lv_iadd C0.1 C0.2.1 dL_law_2648 ?_
  obtain ⟨e5, h⟩ := h
  refine va_sld C0.1 C0.2.1 hX9 hbl9 hbA9 hS e5 dL_law_2649 ?_
  refine lv_aload_n C0.1 C0.2.1 dL_law_2650 rfl (lv_at hl 1 rfl) ?_
  refine lv_iload C0.1 C0.2.1 dL_law_2651 (lv_at hl 6 rfl) ?_
  refine lv_iconst (v := 4) C0.1 C0.2.1 dL_law_2653 (by decide) ?_
  refine lv_iadd C0.1 C0.2.1 dL_law_2654 ?_
  obtain ⟨e6, h⟩ := h
  refine va_sld C0.1 C0.2.1 hX9 hbl9 hbA9 hS e6 dL_law_2655 ?_
  refine lv_aload_n C0.1 C0.2.1 dL_law_2656 rfl (lv_at hl 1 rfl) ?_
  refine lv_iload C0.1 C0.2.1 dL_law_2657 (lv_at hl 6 rfl) ?_
  refine lv_iconst (v := 5) C0.1 C0.2.1 dL_law_2659 (by decide) ?_
  refine lv_iadd C0.1 C0.2.1 dL_law_2660 ?_
  obtain ⟨e7, h⟩ := h
  refine va_sld C0.1 C0.2.1 hX9 hbl9 hbA9 hS e7 dL_law_2661 ?_
  refine lv_if_eq (tgt := 2669) C0.1 C0.2.1 dL_law_2662 (by decide) (fun c8 => ?_) (fun c8 => ?_)
  · replace h := h.1 c8
    refine lv_iconst (v := 0) C0.1 C0.2.1 dL_law_2669 (by decide) ?_
    exact bL_law_b2670 C0 Y hl9 hX9 hbl9 hbA9 hend9 hk28 _ _ _ _ _ _ _ _ _ _ _ _ _ _ _ _ _ _ h hO hS (lv_sub hl [1, 2, 3, 4, 5, 6, 0] rfl) (by clear h; omega) (by clear h; omega)
  · replace h := h.2 c8
    refine lv_iconst (v := 1) C0.1 C0.2.1 dL_law_2665 (by decide) ?_
    refine lv_goto (tgt := 2670) C0.1 C0.2.1 dL_law_2666 (by decide) ?_
    exact bL_law_b2670 C0 Y hl9 hX9 hbl9 hbA9 hend9 hk28 _ _ _ _ _ _ _ _ _ _ _ _ _ _ _ _ _ _ h hO hS (lv_sub hl [1, 2, 3, 4, 5, 6, 0] rfl) (by clear h; omega) (by clear h; omega)
def wL_law_b2586 (x0 : (Nat → Int32)) (L9 : Nat) (k28 : Hp → Nat → Nat → Nat → Nat → Int32 → Prop) (S : Hp) (v1 : Nat) (v2 : Nat) (v3 : Nat) (v4 : Nat) (v5 : Int32) : Prop := vp_in (v5 + 1) L9 ∧ vp_in (v5 + 2) L9 ∧ vp_in (v5 + 3) L9 ∧ vp_in (v5 + 4) L9 ∧ vp_in (v5 + 5) L9 ∧ (((x0 (v5 + 5).toNatClampNeg) = 0 → wL_law_b2625 x0 L9 k28 S v1 v2 v3 v4 v5 v1 (x0 (v5 + 1).toNatClampNeg) (x0 (v5 + 2).toNatClampNeg) (x0 (v5 + 3).toNatClampNeg) (x0 (v5 + 4).toNatClampNeg) 0) ∧ (¬ ((x0 (v5 + 5).toNatClampNeg) = 0) → wL_law_b2625 x0 L9 k28 S v1 v2 v3 v4 v5 v1 (x0 (v5 + 1).toNatClampNeg) (x0 (v5 + 2).toNatClampNeg) (x0 (v5 + 3).toNatClampNeg) (x0 (v5 + 4).toNatClampNeg) 1))
set_option maxHeartbeats 4000000 in
set_option maxRecDepth 100000 in
theorem bL_law_b2586 {p : Program} {l : Launch} {e : Env} {s : State} {m : MethodId} {args : Array Value} {below : List Frame} {meth : Method} {c : Code} {G : Gw} {b9 : Nat} {Q : State → Prop} {x0 : (Nat → Int32)} {L9 : Nat} (C0 : Mx p s m c code 9 args yL_law.cls G) (Y : My meth (some .boolean)) (hl9 : l.stackTraces = false) (hX9 : va_X b9 L9 x0 s s.heap) (hbl9 : b9 < s.heap.size) (hbA9 : ¬ Ab G.b b9) (hend9 : ∀ (pc : Nat) (H : Heap) (locs : List Loc) (ls : Array Slot) (cells slots : Nat), decode code pc = .ok (.ireturn, 1) → va_S (Ab G.b) s.heap H locs → cells ≤ 603072 → slots ≤ 7198826 → W p l e room_1 s m args below meth c H locs cells slots Q (F0 m pc ls [.int 1])) {n9_28 : Nat} {k28 : Hp → Nat → Nat → Nat → Nat → Int32 → Prop} (hk28 : ∀ (S : Hp) (v1 : Nat) (v2 : Nat) (v3 : Nat) (v4 : Nat) (v5 : Int32) (H : Heap) (locs : List Loc) (ls : Array Slot) (cells slots : Nat), k28 S v1 v2 v3 v4 v5 → Ok G S H → va_S (Ab G.b) s.heap H locs → lv_has ls 9 [(0, .ref b9), (1, .ref v1), (2, .ref v2), (3, .ref v3), (4, .ref v4), (5, .int v5)] → cells + (n9_28 * 97 + 97) ≤ 603072 → slots + (n9_28 * 2225 + 2225) ≤ 7198826 → W p l e room_1 s m args below meth c H locs cells slots Q (F0 m 28 ls [])) : ∀ (S : Hp) (v1 : Nat) (v2 : Nat) (v3 : Nat) (v4 : Nat) (v5 : Int32) (H : Heap) (locs : List Loc) (ls : Array Slot) (cells slots : Nat), wL_law_b2586 x0 L9 k28 S v1 v2 v3 v4 v5 → Ok G S H → va_S (Ab G.b) s.heap H locs → lv_has ls 9 [(0, .ref b9), (1, .ref v1), (2, .ref v2), (3, .ref v3), (4, .ref v4), (5, .int v5)] → cells + (n9_28 * 97 + 104) ≤ 603072 → slots + (n9_28 * 2225 + 2261) ≤ 7198826 → W p l e room_1 s m args below meth c H locs cells slots Q (F0 m 2586 ls []) := by
  intro S v1 v2 v3 v4 v5 H locs ls cells slots h hO hS hl hcc hss
  unfold wL_law_b2586 at h
  refine lv_aload_n C0.1 C0.2.1 dL_law_2586 rfl (lv_at hl 1 rfl) ?_
  refine lv_aload_n C0.1 C0.2.1 dL_law_2587 rfl (lv_at hl 0 rfl) ?_
  refine lv_iload C0.1 C0.2.1 dL_law_2588 (lv_at hl 5 rfl) ?_
  refine lv_iconst (v := 1) C0.1 C0.2.1 dL_law_2590 (by decide) ?_
  refine lv_iadd C0.1 C0.2.1 dL_law_2591 ?_
  obtain ⟨e1, h⟩ := h
  refine va_sld C0.1 C0.2.1 hX9 hbl9 hbA9 hS e1 dL_law_2592 ?_
  refine lv_aload_n C0.1 C0.2.1 dL_law_2593 rfl (lv_at hl 0 rfl) ?_
  refine lv_iload C0.1 C0.2.1 dL_law_2594 (lv_at hl 5 rfl) ?_
  refine lv_iconst (v := 2) C0.1 C0.2.1 dL_law_2596 (by decide) ?_
  refine lv_iadd C0.1 C0.2.1 dL_law_2597 ?_
  obtain ⟨e2, h⟩ := h
  refine va_sld C0.1 C0.2.1 hX9 hbl9 hbA9 hS e2 dL_law_2598 ?_
  refine lv_aload_n C0.1 C0.2.1 dL_law_2599 rfl (lv_at hl 0 rfl) ?_
  refine lv_iload C0.1 C0.2.1 dL_law_2600 (lv_at hl 5 rfl) ?_
  refine lv_iconst (v := 3) C0.1 C0.2.1 dL_law_2602 (by decide) ?_
  refine lv_iadd C0.1 C0.2.1 dL_law_2603 ?_
  obtain ⟨e3, h⟩ := h
  refine va_sld C0.1 C0.2.1 hX9 hbl9 hbA9 hS e3 dL_law_2604 ?_
  refine lv_aload_n C0.1 C0.2.1 dL_law_2605 rfl (lv_at hl 0 rfl) ?_
  refine lv_iload C0.1 C0.2.1 dL_law_2606 (lv_at hl 5 rfl) ?_
  refine lv_iconst (v := 4) C0.1 C0.2.1 dL_law_2608 (by decide) ?_
  refine lv_iadd C0.1 C0.2.1 dL_law_2609 ?_
  obtain ⟨e4, h⟩ := h
  refine va_sld C0.1 C0.2.1 hX9 hbl9 hbA9 hS e4 dL_law_2610 ?_
  refine lv_aload_n C0.1 C0.2.1 dL_law_2611 rfl (lv_at hl 0 rfl) ?_
  refine lv_iload C0.1 C0.2.1 dL_law_2612 (lv_at hl 5 rfl) ?_
  refine lv_iconst (v := 5) C0.1 C0.2.1 dL_law_2614 (by decide) ?_
  refine lv_iadd C0.1 C0.2.1 dL_law_2615 ?_
  obtain ⟨e5, h⟩ := h
  refine va_sld C0.1 C0.2.1 hX9 hbl9 hbA9 hS e5 dL_law_2616 ?_
  refine lv_if_eq (tgt := 2624) C0.1 C0.2.1 dL_law_2617 (by decide) (fun c6 => ?_) (fun c6 => ?_)
  · replace h := h.1 c6
    refine lv_iconst (v := 0) C0.1 C0.2.1 dL_law_2624 (by decide) ?_
    exact bL_law_b2625 C0 Y hl9 hX9 hbl9 hbA9 hend9 hk28 _ _ _ _ _ _ _ _ _ _ _ _ _ _ _ _ _ h hO hS (lv_sub hl [0, 1, 2, 3, 4, 5] rfl) (by clear h; omega) (by clear h; omega)
  · replace h := h.2 c6
    refine lv_iconst (v := 1) C0.1 C0.2.1 dL_law_2620 (by decide) ?_
    refine lv_goto (tgt := 2625) C0.1 C0.2.1 dL_law_2621 (by decide) ?_
    exact bL_law_b2625 C0 Y hl9 hX9 hbl9 hbA9 hend9 hk28 _ _ _ _ _ _ _ _ _ _ _ _ _ _ _ _ _ h hO hS (lv_sub hl [0, 1, 2, 3, 4, 5] rfl) (by clear h; omega) (by clear h; omega)
def wL_law_b2821 (x0 : (Nat → Int32)) (L9 : Nat) (k28 : Hp → Nat → Nat → Nat → Nat → Int32 → Prop) (S : Hp) (v1 : Nat) (v2 : Nat) (v3 : Nat) (v4 : Nat) (v5 : Int32) : Prop := wL_law_b3146 x0 L9 k28 S v1 v2 v3 v4 v5
set_option maxHeartbeats 4000000 in
set_option maxRecDepth 100000 in
theorem bL_law_b2821 {p : Program} {l : Launch} {e : Env} {s : State} {m : MethodId} {args : Array Value} {below : List Frame} {meth : Method} {c : Code} {G : Gw} {b9 : Nat} {Q : State → Prop} {x0 : (Nat → Int32)} {L9 : Nat} (C0 : Mx p s m c code 9 args yL_law.cls G) (Y : My meth (some .boolean)) (hl9 : l.stackTraces = false) (hX9 : va_X b9 L9 x0 s s.heap) (hbl9 : b9 < s.heap.size) (hbA9 : ¬ Ab G.b b9) (hend9 : ∀ (pc : Nat) (H : Heap) (locs : List Loc) (ls : Array Slot) (cells slots : Nat), decode code pc = .ok (.ireturn, 1) → va_S (Ab G.b) s.heap H locs → cells ≤ 603072 → slots ≤ 7198826 → W p l e room_1 s m args below meth c H locs cells slots Q (F0 m pc ls [.int 1])) {n9_28 : Nat} {k28 : Hp → Nat → Nat → Nat → Nat → Int32 → Prop} (hk28 : ∀ (S : Hp) (v1 : Nat) (v2 : Nat) (v3 : Nat) (v4 : Nat) (v5 : Int32) (H : Heap) (locs : List Loc) (ls : Array Slot) (cells slots : Nat), k28 S v1 v2 v3 v4 v5 → Ok G S H → va_S (Ab G.b) s.heap H locs → lv_has ls 9 [(0, .ref b9), (1, .ref v1), (2, .ref v2), (3, .ref v3), (4, .ref v4), (5, .int v5)] → cells + (n9_28 * 97 + 97) ≤ 603072 → slots + (n9_28 * 2225 + 2225) ≤ 7198826 → W p l e room_1 s m args below meth c H locs cells slots Q (F0 m 28 ls [])) : ∀ (S : Hp) (v1 : Nat) (v2 : Nat) (v3 : Nat) (v4 : Nat) (v5 : Int32) (H : Heap) (locs : List Loc) (ls : Array Slot) (cells slots : Nat), wL_law_b2821 x0 L9 k28 S v1 v2 v3 v4 v5 → Ok G S H → va_S (Ab G.b) s.heap H locs → lv_has ls 9 [(0, .ref b9), (1, .ref v1), (2, .ref v2), (3, .ref v3), (4, .ref v4), (5, .int v5)] → cells + (n9_28 * 97 + 97) ≤ 603072 → slots + (n9_28 * 2225 + 2225) ≤ 7198826 → W p l e room_1 s m args below meth c H locs cells slots Q (F0 m 2821 ls []) := by
  intro S v1 v2 v3 v4 v5 H locs ls cells slots h hO hS hl hcc hss
  unfold wL_law_b2821 at h
  refine lv_goto (tgt := 3146) C0.1 C0.2.1 dL_law_2821 (by decide) ?_
  exact bL_law_b3146 C0 Y hl9 hX9 hbl9 hbA9 hend9 hk28 _ _ _ _ _ _ _ _ _ _ _ h hO hS (lv_sub hl [0, 1, 2, 3, 4, 5] rfl) (by clear h; omega) (by clear h; omega)
def wL_law_b2789 (x0 : (Nat → Int32)) (L9 : Nat) (k28 : Hp → Nat → Nat → Nat → Nat → Int32 → Prop) (S : Hp) (v1 : Nat) (v2 : Nat) (v3 : Nat) (v4 : Nat) (v5 : Int32) (v6 : Int32) (z0 : Nat) (z1 : Int32) (z2 : Int32) (z3 : Int32) (z4 : Int32) (z5 : Int32) : Prop := isA S z0 8 ∧ wX8_angleUnder S z0 z1 z2 z3 z4 z5 (fun S1 r2 => isA S1 v2 8 ∧ wX8_thrown S1 v2 (fun S4 r5 => ((r5 = v6 → ((¬ v6 = 0 → wL_law_b2821 x0 L9 k28 S4 v1 v2 v3 v4 v5) ∧ (v6 = 0 → isA S4 v3 22 ∧ vp_in 0 (S4.N v3) ∧ (((lg_cmp (S4.AJ v3 ((0 : Int32).toNatClampNeg)) r2) = 0 → wL_law_b2821 x0 L9 k28 S4 v1 v2 v3 v4 v5) ∧ (¬ ((lg_cmp (S4.AJ v3 ((0 : Int32).toNatClampNeg)) r2) = 0) → False))))) ∧ (¬ (r5 = v6) → False))))
set_option maxHeartbeats 4000000 in
set_option maxRecDepth 100000 in
theorem bL_law_b2789 {p : Program} {l : Launch} {e : Env} {s : State} {m : MethodId} {args : Array Value} {below : List Frame} {meth : Method} {c : Code} {G : Gw} {b9 : Nat} {Q : State → Prop} {x0 : (Nat → Int32)} {L9 : Nat} (C0 : Mx p s m c code 9 args yL_law.cls G) (Y : My meth (some .boolean)) (hl9 : l.stackTraces = false) (hX9 : va_X b9 L9 x0 s s.heap) (hbl9 : b9 < s.heap.size) (hbA9 : ¬ Ab G.b b9) (hend9 : ∀ (pc : Nat) (H : Heap) (locs : List Loc) (ls : Array Slot) (cells slots : Nat), decode code pc = .ok (.ireturn, 1) → va_S (Ab G.b) s.heap H locs → cells ≤ 603072 → slots ≤ 7198826 → W p l e room_1 s m args below meth c H locs cells slots Q (F0 m pc ls [.int 1])) {n9_28 : Nat} {k28 : Hp → Nat → Nat → Nat → Nat → Int32 → Prop} (hk28 : ∀ (S : Hp) (v1 : Nat) (v2 : Nat) (v3 : Nat) (v4 : Nat) (v5 : Int32) (H : Heap) (locs : List Loc) (ls : Array Slot) (cells slots : Nat), k28 S v1 v2 v3 v4 v5 → Ok G S H → va_S (Ab G.b) s.heap H locs → lv_has ls 9 [(0, .ref b9), (1, .ref v1), (2, .ref v2), (3, .ref v3), (4, .ref v4), (5, .int v5)] → cells + (n9_28 * 97 + 97) ≤ 603072 → slots + (n9_28 * 2225 + 2225) ≤ 7198826 → W p l e room_1 s m args below meth c H locs cells slots Q (F0 m 28 ls [])) : ∀ (S : Hp) (v1 : Nat) (v2 : Nat) (v3 : Nat) (v4 : Nat) (v5 : Int32) (v6 : Int32) (z0 : Nat) (z1 : Int32) (z2 : Int32) (z3 : Int32) (z4 : Int32) (z5 : Int32) (H : Heap) (locs : List Loc) (ls : Array Slot) (cells slots : Nat), wL_law_b2789 x0 L9 k28 S v1 v2 v3 v4 v5 v6 z0 z1 z2 z3 z4 z5 → Ok G S H → va_S (Ab G.b) s.heap H locs → lv_has ls 9 [(0, .ref b9), (1, .ref v1), (2, .ref v2), (3, .ref v3), (4, .ref v4), (5, .int v5), (6, .int v6)] → cells + (n9_28 * 97 + 97) ≤ 603072 → slots + (n9_28 * 2225 + 2225) ≤ 7198826 → W p l e room_1 s m args below meth c H locs cells slots Q (F0 m 2789 ls [.int z5, .int z4, .int z3, .int z2, .int z1, .ref z0]) := by
  intro S v1 v2 v3 v4 v5 v6 z0 z1 z2 z3 z4 z5 H locs ls cells slots h hO hS hl hcc hss
  unfold wL_law_b2789 at h
  obtain ⟨i3, h⟩ := h
  refine c_V C0 hO hS (mX8_angleUnder h) i3 (by decide) rfl rfl tb_1748 tb_1749 tb_1750 tb_81 tb_1751 hd_X8_angleUnder rfl ⟨⟨by decide, by decide⟩, by show _ + 0 ≤ 603072; omega, by show _ + 0 ≤ 7198826; omega⟩ hl.1 rfl (Nat.le_of_ble_eq_true rfl) dL_law_2789 (kJ (fun r2 S1 H locs h hO hS => ?_))
  change W _ _ _ _ _ _ _ _ _ _ _ _ (_ + 0) (_ + 0) _ _
  refine lv_lstore C0.1 C0.2.1 dL_law_2792 hl (by decide) rfl (fun ls hl => ?_)
  refine lv_aload_n C0.1 C0.2.1 dL_law_2794 rfl (lv_at hl 3 rfl) ?_
  obtain ⟨i6, h⟩ := h
  refine c_V C0 hO hS (mX8_thrown h) i6 (by decide) rfl rfl tb_1443 tb_1444 tb_1445 tb_81 tb_1446 hd_X8_thrown rfl ⟨⟨by decide, by decide⟩, by show _ + 0 ≤ 603072; omega, by show _ + 0 ≤ 7198826; omega⟩ hl.1 rfl (Nat.le_of_ble_eq_true rfl) dL_law_2795 (kI (fun r5 S4 H locs h hO hS => ?_))
  change W _ _ _ _ _ _ _ _ _ _ _ _ (_ + 0) (_ + 0) _ _
  refine lv_iload C0.1 C0.2.1 dL_law_2798 (lv_at hl 7 rfl) ?_
  refine lv_icmp_eq (tgt := 2805) C0.1 C0.2.1 dL_law_2800 (by decide) (fun c7 => ?_) (fun c7 => ?_)
  · replace h := h.1 c7
    refine lv_iload C0.1 C0.2.1 dL_law_2805 (lv_at hl 7 rfl) ?_
    refine lv_if_ne (tgt := 2821) C0.1 C0.2.1 dL_law_2807 (by decide) (fun c8 => ?_) (fun c8 => ?_)
    · replace h := h.1 c8
      exact bL_law_b2821 C0 Y hl9 hX9 hbl9 hbA9 hend9 hk28 _ _ _ _ _ _ _ _ _ _ _ h hO hS (lv_sub hl [1, 2, 3, 4, 5, 6] rfl) (by clear h; omega) (by clear h; omega)
    · replace h := h.2 c8
      refine lv_aload_n C0.1 C0.2.1 dL_law_2810 rfl (lv_at hl 4 rfl) ?_
      refine lv_iconst (v := 0) C0.1 C0.2.1 dL_law_2811 (by decide) ?_
      obtain ⟨i9, h⟩ := h
      obtain ⟨e10, h⟩ := h
      refine r_lald C0 hO i9 e10 dL_law_2812 ?_
      refine lv_lload C0.1 C0.2.1 dL_law_2813 (lv_at hl 0 rfl) ?_
      refine W.lcmp C0.1 C0.2.1 dL_law_2815 ?_
      refine lv_if_eq (tgt := 2821) C0.1 C0.2.1 dL_law_2816 (by decide) (fun c11 => ?_) (fun c11 => ?_)
      · replace h := h.1 c11
        exact bL_law_b2821 C0 Y hl9 hX9 hbl9 hbA9 hend9 hk28 _ _ _ _ _ _ _ _ _ _ _ h hO hS (lv_sub hl [1, 2, 3, 4, 5, 6] rfl) (by clear h; omega) (by clear h; omega)
      · replace h := h.2 c11
        refine lv_iconst (v := 0) C0.1 C0.2.1 dL_law_2819 (by decide) ?_
        exact h.elim
  · replace h := h.2 c7
    refine lv_iconst (v := 0) C0.1 C0.2.1 dL_law_2803 (by decide) ?_
    exact h.elim
def wL_law_b2744 (x0 : (Nat → Int32)) (L9 : Nat) (k28 : Hp → Nat → Nat → Nat → Nat → Int32 → Prop) (S : Hp) (v1 : Nat) (v2 : Nat) (v3 : Nat) (v4 : Nat) (v5 : Int32) (z0 : Nat) (z1 : Int32) (z2 : Int32) (z3 : Int32) (z4 : Int32) (z5 : Int32) : Prop := wL_angleUnder S z0 z1 z2 z3 z4 z5 v3 (fun S1 r2 => vp_in (v5 + 1) L9 ∧ vp_in (v5 + 2) L9 ∧ vp_in (v5 + 3) L9 ∧ vp_in (v5 + 4) L9 ∧ vp_in (v5 + 5) L9 ∧ (((x0 (v5 + 5).toNatClampNeg) = 0 → wL_law_b2789 x0 L9 k28 S1 v1 v2 v3 v4 v5 r2 v2 (x0 (v5 + 1).toNatClampNeg) (x0 (v5 + 2).toNatClampNeg) (x0 (v5 + 3).toNatClampNeg) (x0 (v5 + 4).toNatClampNeg) 0) ∧ (¬ ((x0 (v5 + 5).toNatClampNeg) = 0) → wL_law_b2789 x0 L9 k28 S1 v1 v2 v3 v4 v5 r2 v2 (x0 (v5 + 1).toNatClampNeg) (x0 (v5 + 2).toNatClampNeg) (x0 (v5 + 3).toNatClampNeg) (x0 (v5 + 4).toNatClampNeg) 1)))
set_option maxHeartbeats 4000000 in
set_option maxRecDepth 100000 in
theorem bL_law_b2744 {p : Program} {l : Launch} {e : Env} {s : State} {m : MethodId} {args : Array Value} {below : List Frame} {meth : Method} {c : Code} {G : Gw} {b9 : Nat} {Q : State → Prop} {x0 : (Nat → Int32)} {L9 : Nat} (C0 : Mx p s m c code 9 args yL_law.cls G) (Y : My meth (some .boolean)) (hl9 : l.stackTraces = false) (hX9 : va_X b9 L9 x0 s s.heap) (hbl9 : b9 < s.heap.size) (hbA9 : ¬ Ab G.b b9) (hend9 : ∀ (pc : Nat) (H : Heap) (locs : List Loc) (ls : Array Slot) (cells slots : Nat), decode code pc = .ok (.ireturn, 1) → va_S (Ab G.b) s.heap H locs → cells ≤ 603072 → slots ≤ 7198826 → W p l e room_1 s m args below meth c H locs cells slots Q (F0 m pc ls [.int 1])) {n9_28 : Nat} {k28 : Hp → Nat → Nat → Nat → Nat → Int32 → Prop} (hk28 : ∀ (S : Hp) (v1 : Nat) (v2 : Nat) (v3 : Nat) (v4 : Nat) (v5 : Int32) (H : Heap) (locs : List Loc) (ls : Array Slot) (cells slots : Nat), k28 S v1 v2 v3 v4 v5 → Ok G S H → va_S (Ab G.b) s.heap H locs → lv_has ls 9 [(0, .ref b9), (1, .ref v1), (2, .ref v2), (3, .ref v3), (4, .ref v4), (5, .int v5)] → cells + (n9_28 * 97 + 97) ≤ 603072 → slots + (n9_28 * 2225 + 2225) ≤ 7198826 → W p l e room_1 s m args below meth c H locs cells slots Q (F0 m 28 ls [])) : ∀ (S : Hp) (v1 : Nat) (v2 : Nat) (v3 : Nat) (v4 : Nat) (v5 : Int32) (z0 : Nat) (z1 : Int32) (z2 : Int32) (z3 : Int32) (z4 : Int32) (z5 : Int32) (H : Heap) (locs : List Loc) (ls : Array Slot) (cells slots : Nat), wL_law_b2744 x0 L9 k28 S v1 v2 v3 v4 v5 z0 z1 z2 z3 z4 z5 → Ok G S H → va_S (Ab G.b) s.heap H locs → lv_has ls 9 [(0, .ref b9), (1, .ref v1), (2, .ref v2), (3, .ref v3), (4, .ref v4), (5, .int v5)] → cells + (n9_28 * 97 + 104) ≤ 603072 → slots + (n9_28 * 2225 + 2261) ≤ 7198826 → W p l e room_1 s m args below meth c H locs cells slots Q (F0 m 2744 ls [.int z5, .int z4, .int z3, .int z2, .int z1, .ref z0]) := by
  intro S v1 v2 v3 v4 v5 z0 z1 z2 z3 z4 z5 H locs ls cells slots h hO hS hl hcc hss
  unfold wL_law_b2744 at h
  refine lv_aload_n C0.1 C0.2.1 dL_law_2744 rfl (lv_at hl 3 rfl) ?_
  refine c_SW C0 hO hS (mL_angleUnder hl9 h) tb_1255 tb_1256 tb_73 tb_1257 hd_L_angleUnder rfl ⟨⟨by decide, by decide⟩, by show _ + 7 ≤ 603072; omega, by show _ + 36 ≤ 7198826; omega⟩ hl.1 rfl (Nat.le_of_ble_eq_true rfl) dL_law_2745 (kI (fun r2 S1 H locs h hO hS => ?_))
  change W _ _ _ _ _ _ _ _ _ _ _ _ (_ + 7) (_ + 36) _ _
  refine lv_istore C0.1 C0.2.1 dL_law_2748 hl (by decide) rfl (fun ls hl => ?_)
  refine lv_aload_n C0.1 C0.2.1 dL_law_2750 rfl (lv_at hl 3 rfl) ?_
  refine lv_aload_n C0.1 C0.2.1 dL_law_2751 rfl (lv_at hl 1 rfl) ?_
  refine lv_iload C0.1 C0.2.1 dL_law_2752 (lv_at hl 6 rfl) ?_
  refine lv_iconst (v := 1) C0.1 C0.2.1 dL_law_2754 (by decide) ?_
  refine lv_iadd C0.1 C0.2.1 dL_law_2755 ?_
  obtain ⟨e3, h⟩ := h
  refine va_sld C0.1 C0.2.1 hX9 hbl9 hbA9 hS e3 dL_law_2756 ?_
  refine lv_aload_n C0.1 C0.2.1 dL_law_2757 rfl (lv_at hl 1 rfl) ?_
  refine lv_iload C0.1 C0.2.1 dL_law_2758 (lv_at hl 6 rfl) ?_
  refine lv_iconst (v := 2) C0.1 C0.2.1 dL_law_2760 (by decide) ?_
  refine lv_iadd C0.1 C0.2.1 dL_law_2761 ?_
  obtain ⟨e4, h⟩ := h
  refine va_sld C0.1 C0.2.1 hX9 hbl9 hbA9 hS e4 dL_law_2762 ?_
  refine lv_aload_n C0.1 C0.2.1 dL_law_2763 rfl (lv_at hl 1 rfl) ?_
  refine lv_iload C0.1 C0.2.1 dL_law_2764 (lv_at hl 6 rfl) ?_
  refine lv_iconst (v := 3) C0.1 C0.2.1 dL_law_2766 (by decide) ?_
  refine lv_iadd C0.1 C0.2.1 dL_law_2767 ?_
  obtain ⟨e5, h⟩ := h
  refine va_sld C0.1 C0.2.1 hX9 hbl9 hbA9 hS e5 dL_law_2768 ?_
  refine lv_aload_n C0.1 C0.2.1 dL_law_2769 rfl (lv_at hl 1 rfl) ?_
  refine lv_iload C0.1 C0.2.1 dL_law_2770 (lv_at hl 6 rfl) ?_
  refine lv_iconst (v := 4) C0.1 C0.2.1 dL_law_2772 (by decide) ?_
  refine lv_iadd C0.1 C0.2.1 dL_law_2773 ?_
  obtain ⟨e6, h⟩ := h
  refine va_sld C0.1 C0.2.1 hX9 hbl9 hbA9 hS e6 dL_law_2774 ?_
  refine lv_aload_n C0.1 C0.2.1 dL_law_2775 rfl (lv_at hl 1 rfl) ?_
  refine lv_iload C0.1 C0.2.1 dL_law_2776 (lv_at hl 6 rfl) ?_
  refine lv_iconst (v := 5) C0.1 C0.2.1 dL_law_2778 (by decide) ?_
  refine lv_iadd C0.1 C0.2.1 dL_law_2779 ?_
  obtain ⟨e7, h⟩ := h
  refine va_sld C0.1 C0.2.1 hX9 hbl9 hbA9 hS e7 dL_law_2780 ?_
  refine lv_if_eq (tgt := 2788) C0.1 C0.2.1 dL_law_2781 (by decide) (fun c8 => ?_) (fun c8 => ?_)
  · replace h := h.1 c8
    refine lv_iconst (v := 0) C0.1 C0.2.1 dL_law_2788 (by decide) ?_
    exact bL_law_b2789 C0 Y hl9 hX9 hbl9 hbA9 hend9 hk28 _ _ _ _ _ _ _ _ _ _ _ _ _ _ _ _ _ _ h hO hS (lv_sub hl [1, 2, 3, 4, 5, 6, 0] rfl) (by clear h; omega) (by clear h; omega)
  · replace h := h.2 c8
    refine lv_iconst (v := 1) C0.1 C0.2.1 dL_law_2784 (by decide) ?_
    refine lv_goto (tgt := 2789) C0.1 C0.2.1 dL_law_2785 (by decide) ?_
    exact bL_law_b2789 C0 Y hl9 hX9 hbl9 hbA9 hend9 hk28 _ _ _ _ _ _ _ _ _ _ _ _ _ _ _ _ _ _ h hO hS (lv_sub hl [1, 2, 3, 4, 5, 6, 0] rfl) (by clear h; omega) (by clear h; omega)
def wL_law_b2705 (x0 : (Nat → Int32)) (L9 : Nat) (k28 : Hp → Nat → Nat → Nat → Nat → Int32 → Prop) (S : Hp) (v1 : Nat) (v2 : Nat) (v3 : Nat) (v4 : Nat) (v5 : Int32) : Prop := vp_in (v5 + 1) L9 ∧ vp_in (v5 + 2) L9 ∧ vp_in (v5 + 3) L9 ∧ vp_in (v5 + 4) L9 ∧ vp_in (v5 + 5) L9 ∧ (((x0 (v5 + 5).toNatClampNeg) = 0 → wL_law_b2744 x0 L9 k28 S v1 v2 v3 v4 v5 v1 (x0 (v5 + 1).toNatClampNeg) (x0 (v5 + 2).toNatClampNeg) (x0 (v5 + 3).toNatClampNeg) (x0 (v5 + 4).toNatClampNeg) 0) ∧ (¬ ((x0 (v5 + 5).toNatClampNeg) = 0) → wL_law_b2744 x0 L9 k28 S v1 v2 v3 v4 v5 v1 (x0 (v5 + 1).toNatClampNeg) (x0 (v5 + 2).toNatClampNeg) (x0 (v5 + 3).toNatClampNeg) (x0 (v5 + 4).toNatClampNeg) 1))
set_option maxHeartbeats 4000000 in
set_option maxRecDepth 100000 in
theorem bL_law_b2705 {p : Program} {l : Launch} {e : Env} {s : State} {m : MethodId} {args : Array Value} {below : List Frame} {meth : Method} {c : Code} {G : Gw} {b9 : Nat} {Q : State → Prop} {x0 : (Nat → Int32)} {L9 : Nat} (C0 : Mx p s m c code 9 args yL_law.cls G) (Y : My meth (some .boolean)) (hl9 : l.stackTraces = false) (hX9 : va_X b9 L9 x0 s s.heap) (hbl9 : b9 < s.heap.size) (hbA9 : ¬ Ab G.b b9) (hend9 : ∀ (pc : Nat) (H : Heap) (locs : List Loc) (ls : Array Slot) (cells slots : Nat), decode code pc = .ok (.ireturn, 1) → va_S (Ab G.b) s.heap H locs → cells ≤ 603072 → slots ≤ 7198826 → W p l e room_1 s m args below meth c H locs cells slots Q (F0 m pc ls [.int 1])) {n9_28 : Nat} {k28 : Hp → Nat → Nat → Nat → Nat → Int32 → Prop} (hk28 : ∀ (S : Hp) (v1 : Nat) (v2 : Nat) (v3 : Nat) (v4 : Nat) (v5 : Int32) (H : Heap) (locs : List Loc) (ls : Array Slot) (cells slots : Nat), k28 S v1 v2 v3 v4 v5 → Ok G S H → va_S (Ab G.b) s.heap H locs → lv_has ls 9 [(0, .ref b9), (1, .ref v1), (2, .ref v2), (3, .ref v3), (4, .ref v4), (5, .int v5)] → cells + (n9_28 * 97 + 97) ≤ 603072 → slots + (n9_28 * 2225 + 2225) ≤ 7198826 → W p l e room_1 s m args below meth c H locs cells slots Q (F0 m 28 ls [])) : ∀ (S : Hp) (v1 : Nat) (v2 : Nat) (v3 : Nat) (v4 : Nat) (v5 : Int32) (H : Heap) (locs : List Loc) (ls : Array Slot) (cells slots : Nat), wL_law_b2705 x0 L9 k28 S v1 v2 v3 v4 v5 → Ok G S H → va_S (Ab G.b) s.heap H locs → lv_has ls 9 [(0, .ref b9), (1, .ref v1), (2, .ref v2), (3, .ref v3), (4, .ref v4), (5, .int v5)] → cells + (n9_28 * 97 + 104) ≤ 603072 → slots + (n9_28 * 2225 + 2261) ≤ 7198826 → W p l e room_1 s m args below meth c H locs cells slots Q (F0 m 2705 ls []) := by
  intro S v1 v2 v3 v4 v5 H locs ls cells slots h hO hS hl hcc hss
  unfold wL_law_b2705 at h
  refine lv_aload_n C0.1 C0.2.1 dL_law_2705 rfl (lv_at hl 1 rfl) ?_
  refine lv_aload_n C0.1 C0.2.1 dL_law_2706 rfl (lv_at hl 0 rfl) ?_
  refine lv_iload C0.1 C0.2.1 dL_law_2707 (lv_at hl 5 rfl) ?_
  refine lv_iconst (v := 1) C0.1 C0.2.1 dL_law_2709 (by decide) ?_
  refine lv_iadd C0.1 C0.2.1 dL_law_2710 ?_
  obtain ⟨e1, h⟩ := h
  refine va_sld C0.1 C0.2.1 hX9 hbl9 hbA9 hS e1 dL_law_2711 ?_
  refine lv_aload_n C0.1 C0.2.1 dL_law_2712 rfl (lv_at hl 0 rfl) ?_
  refine lv_iload C0.1 C0.2.1 dL_law_2713 (lv_at hl 5 rfl) ?_
  refine lv_iconst (v := 2) C0.1 C0.2.1 dL_law_2715 (by decide) ?_
  refine lv_iadd C0.1 C0.2.1 dL_law_2716 ?_
  obtain ⟨e2, h⟩ := h
  refine va_sld C0.1 C0.2.1 hX9 hbl9 hbA9 hS e2 dL_law_2717 ?_
  refine lv_aload_n C0.1 C0.2.1 dL_law_2718 rfl (lv_at hl 0 rfl) ?_
  refine lv_iload C0.1 C0.2.1 dL_law_2719 (lv_at hl 5 rfl) ?_
  refine lv_iconst (v := 3) C0.1 C0.2.1 dL_law_2721 (by decide) ?_
  refine lv_iadd C0.1 C0.2.1 dL_law_2722 ?_
  obtain ⟨e3, h⟩ := h
  refine va_sld C0.1 C0.2.1 hX9 hbl9 hbA9 hS e3 dL_law_2723 ?_
  refine lv_aload_n C0.1 C0.2.1 dL_law_2724 rfl (lv_at hl 0 rfl) ?_
  refine lv_iload C0.1 C0.2.1 dL_law_2725 (lv_at hl 5 rfl) ?_
  refine lv_iconst (v := 4) C0.1 C0.2.1 dL_law_2727 (by decide) ?_
  refine lv_iadd C0.1 C0.2.1 dL_law_2728 ?_
  obtain ⟨e4, h⟩ := h
  refine va_sld C0.1 C0.2.1 hX9 hbl9 hbA9 hS e4 dL_law_2729 ?_
  refine lv_aload_n C0.1 C0.2.1 dL_law_2730 rfl (lv_at hl 0 rfl) ?_
  refine lv_iload C0.1 C0.2.1 dL_law_2731 (lv_at hl 5 rfl) ?_
  refine lv_iconst (v := 5) C0.1 C0.2.1 dL_law_2733 (by decide) ?_
  refine lv_iadd C0.1 C0.2.1 dL_law_2734 ?_
  obtain ⟨e5, h⟩ := h
  refine va_sld C0.1 C0.2.1 hX9 hbl9 hbA9 hS e5 dL_law_2735 ?_
  refine lv_if_eq (tgt := 2743) C0.1 C0.2.1 dL_law_2736 (by decide) (fun c6 => ?_) (fun c6 => ?_)
  · replace h := h.1 c6
    refine lv_iconst (v := 0) C0.1 C0.2.1 dL_law_2743 (by decide) ?_
    exact bL_law_b2744 C0 Y hl9 hX9 hbl9 hbA9 hend9 hk28 _ _ _ _ _ _ _ _ _ _ _ _ _ _ _ _ _ h hO hS (lv_sub hl [0, 1, 2, 3, 4, 5] rfl) (by clear h; omega) (by clear h; omega)
  · replace h := h.2 c6
    refine lv_iconst (v := 1) C0.1 C0.2.1 dL_law_2739 (by decide) ?_
    refine lv_goto (tgt := 2744) C0.1 C0.2.1 dL_law_2740 (by decide) ?_
    exact bL_law_b2744 C0 Y hl9 hX9 hbl9 hbA9 hend9 hk28 _ _ _ _ _ _ _ _ _ _ _ _ _ _ _ _ _ h hO hS (lv_sub hl [0, 1, 2, 3, 4, 5] rfl) (by clear h; omega) (by clear h; omega)
def wL_law_b2917 (x0 : (Nat → Int32)) (L9 : Nat) (k28 : Hp → Nat → Nat → Nat → Nat → Int32 → Prop) (S : Hp) (v1 : Nat) (v2 : Nat) (v3 : Nat) (v4 : Nat) (v5 : Int32) : Prop := wL_law_b3146 x0 L9 k28 S v1 v2 v3 v4 v5
set_option maxHeartbeats 4000000 in
set_option maxRecDepth 100000 in
theorem bL_law_b2917 {p : Program} {l : Launch} {e : Env} {s : State} {m : MethodId} {args : Array Value} {below : List Frame} {meth : Method} {c : Code} {G : Gw} {b9 : Nat} {Q : State → Prop} {x0 : (Nat → Int32)} {L9 : Nat} (C0 : Mx p s m c code 9 args yL_law.cls G) (Y : My meth (some .boolean)) (hl9 : l.stackTraces = false) (hX9 : va_X b9 L9 x0 s s.heap) (hbl9 : b9 < s.heap.size) (hbA9 : ¬ Ab G.b b9) (hend9 : ∀ (pc : Nat) (H : Heap) (locs : List Loc) (ls : Array Slot) (cells slots : Nat), decode code pc = .ok (.ireturn, 1) → va_S (Ab G.b) s.heap H locs → cells ≤ 603072 → slots ≤ 7198826 → W p l e room_1 s m args below meth c H locs cells slots Q (F0 m pc ls [.int 1])) {n9_28 : Nat} {k28 : Hp → Nat → Nat → Nat → Nat → Int32 → Prop} (hk28 : ∀ (S : Hp) (v1 : Nat) (v2 : Nat) (v3 : Nat) (v4 : Nat) (v5 : Int32) (H : Heap) (locs : List Loc) (ls : Array Slot) (cells slots : Nat), k28 S v1 v2 v3 v4 v5 → Ok G S H → va_S (Ab G.b) s.heap H locs → lv_has ls 9 [(0, .ref b9), (1, .ref v1), (2, .ref v2), (3, .ref v3), (4, .ref v4), (5, .int v5)] → cells + (n9_28 * 97 + 97) ≤ 603072 → slots + (n9_28 * 2225 + 2225) ≤ 7198826 → W p l e room_1 s m args below meth c H locs cells slots Q (F0 m 28 ls [])) : ∀ (S : Hp) (v1 : Nat) (v2 : Nat) (v3 : Nat) (v4 : Nat) (v5 : Int32) (H : Heap) (locs : List Loc) (ls : Array Slot) (cells slots : Nat), wL_law_b2917 x0 L9 k28 S v1 v2 v3 v4 v5 → Ok G S H → va_S (Ab G.b) s.heap H locs → lv_has ls 9 [(0, .ref b9), (1, .ref v1), (2, .ref v2), (3, .ref v3), (4, .ref v4), (5, .int v5)] → cells + (n9_28 * 97 + 97) ≤ 603072 → slots + (n9_28 * 2225 + 2225) ≤ 7198826 → W p l e room_1 s m args below meth c H locs cells slots Q (F0 m 2917 ls []) := by
  intro S v1 v2 v3 v4 v5 H locs ls cells slots h hO hS hl hcc hss
  unfold wL_law_b2917 at h
  refine lv_goto (tgt := 3146) C0.1 C0.2.1 dL_law_2917 (by decide) ?_
  exact bL_law_b3146 C0 Y hl9 hX9 hbl9 hbA9 hend9 hk28 _ _ _ _ _ _ _ _ _ _ _ h hO hS (lv_sub hl [0, 1, 2, 3, 4, 5] rfl) (by clear h; omega) (by clear h; omega)
def wL_law_b2884 (x0 : (Nat → Int32)) (L9 : Nat) (k28 : Hp → Nat → Nat → Nat → Nat → Int32 → Prop) (S : Hp) (v1 : Nat) (v2 : Nat) (v3 : Nat) (v4 : Nat) (v5 : Int32) (v6 : Int32) (z0 : Nat) (z1 : Int32) (z2 : Int32) (z3 : Int32) : Prop := isA S z0 8 ∧ wX8_teeth S z0 z1 z2 z3 (fun S1 r2 => isA S1 v2 8 ∧ wX8_thrown S1 v2 (fun S4 r5 => ((r5 = v6 → ((¬ v6 = 0 → wL_law_b2917 x0 L9 k28 S4 v1 v2 v3 v4 v5) ∧ (v6 = 0 → isA S4 v3 22 ∧ vp_in 0 (S4.N v3) ∧ (((lg_cmp (S4.AJ v3 ((0 : Int32).toNatClampNeg)) r2.toInt64) = 0 → wL_law_b2917 x0 L9 k28 S4 v1 v2 v3 v4 v5) ∧ (¬ ((lg_cmp (S4.AJ v3 ((0 : Int32).toNatClampNeg)) r2.toInt64) = 0) → False))))) ∧ (¬ (r5 = v6) → False))))
set_option maxHeartbeats 4000000 in
set_option maxRecDepth 100000 in
theorem bL_law_b2884 {p : Program} {l : Launch} {e : Env} {s : State} {m : MethodId} {args : Array Value} {below : List Frame} {meth : Method} {c : Code} {G : Gw} {b9 : Nat} {Q : State → Prop} {x0 : (Nat → Int32)} {L9 : Nat} (C0 : Mx p s m c code 9 args yL_law.cls G) (Y : My meth (some .boolean)) (hl9 : l.stackTraces = false) (hX9 : va_X b9 L9 x0 s s.heap) (hbl9 : b9 < s.heap.size) (hbA9 : ¬ Ab G.b b9) (hend9 : ∀ (pc : Nat) (H : Heap) (locs : List Loc) (ls : Array Slot) (cells slots : Nat), decode code pc = .ok (.ireturn, 1) → va_S (Ab G.b) s.heap H locs → cells ≤ 603072 → slots ≤ 7198826 → W p l e room_1 s m args below meth c H locs cells slots Q (F0 m pc ls [.int 1])) {n9_28 : Nat} {k28 : Hp → Nat → Nat → Nat → Nat → Int32 → Prop} (hk28 : ∀ (S : Hp) (v1 : Nat) (v2 : Nat) (v3 : Nat) (v4 : Nat) (v5 : Int32) (H : Heap) (locs : List Loc) (ls : Array Slot) (cells slots : Nat), k28 S v1 v2 v3 v4 v5 → Ok G S H → va_S (Ab G.b) s.heap H locs → lv_has ls 9 [(0, .ref b9), (1, .ref v1), (2, .ref v2), (3, .ref v3), (4, .ref v4), (5, .int v5)] → cells + (n9_28 * 97 + 97) ≤ 603072 → slots + (n9_28 * 2225 + 2225) ≤ 7198826 → W p l e room_1 s m args below meth c H locs cells slots Q (F0 m 28 ls [])) : ∀ (S : Hp) (v1 : Nat) (v2 : Nat) (v3 : Nat) (v4 : Nat) (v5 : Int32) (v6 : Int32) (z0 : Nat) (z1 : Int32) (z2 : Int32) (z3 : Int32) (H : Heap) (locs : List Loc) (ls : Array Slot) (cells slots : Nat), wL_law_b2884 x0 L9 k28 S v1 v2 v3 v4 v5 v6 z0 z1 z2 z3 → Ok G S H → va_S (Ab G.b) s.heap H locs → lv_has ls 9 [(0, .ref b9), (1, .ref v1), (2, .ref v2), (3, .ref v3), (4, .ref v4), (5, .int v5), (6, .int v6)] → cells + (n9_28 * 97 + 97) ≤ 603072 → slots + (n9_28 * 2225 + 2225) ≤ 7198826 → W p l e room_1 s m args below meth c H locs cells slots Q (F0 m 2884 ls [.int z3, .int z2, .int z1, .ref z0]) := by
  intro S v1 v2 v3 v4 v5 v6 z0 z1 z2 z3 H locs ls cells slots h hO hS hl hcc hss
  unfold wL_law_b2884 at h
  obtain ⟨i3, h⟩ := h
  refine c_V C0 hO hS (mX8_teeth h) i3 (by decide) rfl rfl tb_1752 tb_1753 tb_1754 tb_81 tb_1755 hd_X8_teeth rfl ⟨⟨by decide, by decide⟩, by show _ + 0 ≤ 603072; omega, by show _ + 0 ≤ 7198826; omega⟩ hl.1 rfl (Nat.le_of_ble_eq_true rfl) dL_law_2884 (kI (fun r2 S1 H locs h hO hS => ?_))
  change W _ _ _ _ _ _ _ _ _ _ _ _ (_ + 0) (_ + 0) _ _
  refine lv_istore C0.1 C0.2.1 dL_law_2887 hl (by decide) rfl (fun ls hl => ?_)
  refine lv_aload_n C0.1 C0.2.1 dL_law_2889 rfl (lv_at hl 3 rfl) ?_
  obtain ⟨i6, h⟩ := h
  refine c_V C0 hO hS (mX8_thrown h) i6 (by decide) rfl rfl tb_1443 tb_1444 tb_1445 tb_81 tb_1446 hd_X8_thrown rfl ⟨⟨by decide, by decide⟩, by show _ + 0 ≤ 603072; omega, by show _ + 0 ≤ 7198826; omega⟩ hl.1 rfl (Nat.le_of_ble_eq_true rfl) dL_law_2890 (kI (fun r5 S4 H locs h hO hS => ?_))
  change W _ _ _ _ _ _ _ _ _ _ _ _ (_ + 0) (_ + 0) _ _
  refine lv_iload C0.1 C0.2.1 dL_law_2893 (lv_at hl 7 rfl) ?_
  refine lv_icmp_eq (tgt := 2900) C0.1 C0.2.1 dL_law_2895 (by decide) (fun c7 => ?_) (fun c7 => ?_)
  · replace h := h.1 c7
    refine lv_iload C0.1 C0.2.1 dL_law_2900 (lv_at hl 7 rfl) ?_
    refine lv_if_ne (tgt := 2917) C0.1 C0.2.1 dL_law_2902 (by decide) (fun c8 => ?_) (fun c8 => ?_)
    · replace h := h.1 c8
      exact bL_law_b2917 C0 Y hl9 hX9 hbl9 hbA9 hend9 hk28 _ _ _ _ _ _ _ _ _ _ _ h hO hS (lv_sub hl [1, 2, 3, 4, 5, 6] rfl) (by clear h; omega) (by clear h; omega)
    · replace h := h.2 c8
      refine lv_aload_n C0.1 C0.2.1 dL_law_2905 rfl (lv_at hl 4 rfl) ?_
      refine lv_iconst (v := 0) C0.1 C0.2.1 dL_law_2906 (by decide) ?_
      obtain ⟨i9, h⟩ := h
      obtain ⟨e10, h⟩ := h
      refine r_lald C0 hO i9 e10 dL_law_2907 ?_
      refine lv_iload C0.1 C0.2.1 dL_law_2908 (lv_at hl 0 rfl) ?_
      refine lv_i2l C0.1 C0.2.1 dL_law_2910 rfl ?_
      refine W.lcmp C0.1 C0.2.1 dL_law_2911 ?_
      refine lv_if_eq (tgt := 2917) C0.1 C0.2.1 dL_law_2912 (by decide) (fun c11 => ?_) (fun c11 => ?_)
      · replace h := h.1 c11
        exact bL_law_b2917 C0 Y hl9 hX9 hbl9 hbA9 hend9 hk28 _ _ _ _ _ _ _ _ _ _ _ h hO hS (lv_sub hl [1, 2, 3, 4, 5, 6] rfl) (by clear h; omega) (by clear h; omega)
      · replace h := h.2 c11
        refine lv_iconst (v := 0) C0.1 C0.2.1 dL_law_2915 (by decide) ?_
        exact h.elim
  · replace h := h.2 c7
    refine lv_iconst (v := 0) C0.1 C0.2.1 dL_law_2898 (by decide) ?_
    exact h.elim
def wL_law_b2851 (x0 : (Nat → Int32)) (L9 : Nat) (k28 : Hp → Nat → Nat → Nat → Nat → Int32 → Prop) (S : Hp) (v1 : Nat) (v2 : Nat) (v3 : Nat) (v4 : Nat) (v5 : Int32) (z0 : Nat) (z1 : Int32) (z2 : Int32) (z3 : Int32) : Prop := wL_teeth S z0 z1 z2 z3 v3 (fun S1 r2 => vp_in (v5 + 1) L9 ∧ vp_in (v5 + 2) L9 ∧ vp_in (v5 + 3) L9 ∧ (((x0 (v5 + 3).toNatClampNeg) = 0 → wL_law_b2884 x0 L9 k28 S1 v1 v2 v3 v4 v5 r2 v2 (x0 (v5 + 1).toNatClampNeg) (x0 (v5 + 2).toNatClampNeg) 0) ∧ (¬ ((x0 (v5 + 3).toNatClampNeg) = 0) → wL_law_b2884 x0 L9 k28 S1 v1 v2 v3 v4 v5 r2 v2 (x0 (v5 + 1).toNatClampNeg) (x0 (v5 + 2).toNatClampNeg) 1)))
set_option maxHeartbeats 4000000 in
set_option maxRecDepth 100000 in
theorem bL_law_b2851 {p : Program} {l : Launch} {e : Env} {s : State} {m : MethodId} {args : Array Value} {below : List Frame} {meth : Method} {c : Code} {G : Gw} {b9 : Nat} {Q : State → Prop} {x0 : (Nat → Int32)} {L9 : Nat} (C0 : Mx p s m c code 9 args yL_law.cls G) (Y : My meth (some .boolean)) (hl9 : l.stackTraces = false) (hX9 : va_X b9 L9 x0 s s.heap) (hbl9 : b9 < s.heap.size) (hbA9 : ¬ Ab G.b b9) (hend9 : ∀ (pc : Nat) (H : Heap) (locs : List Loc) (ls : Array Slot) (cells slots : Nat), decode code pc = .ok (.ireturn, 1) → va_S (Ab G.b) s.heap H locs → cells ≤ 603072 → slots ≤ 7198826 → W p l e room_1 s m args below meth c H locs cells slots Q (F0 m pc ls [.int 1])) {n9_28 : Nat} {k28 : Hp → Nat → Nat → Nat → Nat → Int32 → Prop} (hk28 : ∀ (S : Hp) (v1 : Nat) (v2 : Nat) (v3 : Nat) (v4 : Nat) (v5 : Int32) (H : Heap) (locs : List Loc) (ls : Array Slot) (cells slots : Nat), k28 S v1 v2 v3 v4 v5 → Ok G S H → va_S (Ab G.b) s.heap H locs → lv_has ls 9 [(0, .ref b9), (1, .ref v1), (2, .ref v2), (3, .ref v3), (4, .ref v4), (5, .int v5)] → cells + (n9_28 * 97 + 97) ≤ 603072 → slots + (n9_28 * 2225 + 2225) ≤ 7198826 → W p l e room_1 s m args below meth c H locs cells slots Q (F0 m 28 ls [])) : ∀ (S : Hp) (v1 : Nat) (v2 : Nat) (v3 : Nat) (v4 : Nat) (v5 : Int32) (z0 : Nat) (z1 : Int32) (z2 : Int32) (z3 : Int32) (H : Heap) (locs : List Loc) (ls : Array Slot) (cells slots : Nat), wL_law_b2851 x0 L9 k28 S v1 v2 v3 v4 v5 z0 z1 z2 z3 → Ok G S H → va_S (Ab G.b) s.heap H locs → lv_has ls 9 [(0, .ref b9), (1, .ref v1), (2, .ref v2), (3, .ref v3), (4, .ref v4), (5, .int v5)] → cells + (n9_28 * 97 + 99) ≤ 603072 → slots + (n9_28 * 2225 + 2237) ≤ 7198826 → W p l e room_1 s m args below meth c H locs cells slots Q (F0 m 2851 ls [.int z3, .int z2, .int z1, .ref z0]) := by
  intro S v1 v2 v3 v4 v5 z0 z1 z2 z3 H locs ls cells slots h hO hS hl hcc hss
  unfold wL_law_b2851 at h
  refine lv_aload_n C0.1 C0.2.1 dL_law_2851 rfl (lv_at hl 3 rfl) ?_
  refine c_SW C0 hO hS (mL_teeth hl9 h) tb_1262 tb_1263 tb_73 tb_1264 hd_L_teeth rfl ⟨⟨by decide, by decide⟩, by show _ + 2 ≤ 603072; omega, by show _ + 12 ≤ 7198826; omega⟩ hl.1 rfl (Nat.le_of_ble_eq_true rfl) dL_law_2852 (kI (fun r2 S1 H locs h hO hS => ?_))
  change W _ _ _ _ _ _ _ _ _ _ _ _ (_ + 2) (_ + 12) _ _
  refine lv_istore C0.1 C0.2.1 dL_law_2855 hl (by decide) rfl (fun ls hl => ?_)
  refine lv_aload_n C0.1 C0.2.1 dL_law_2857 rfl (lv_at hl 3 rfl) ?_
  refine lv_aload_n C0.1 C0.2.1 dL_law_2858 rfl (lv_at hl 1 rfl) ?_
  refine lv_iload C0.1 C0.2.1 dL_law_2859 (lv_at hl 6 rfl) ?_
  refine lv_iconst (v := 1) C0.1 C0.2.1 dL_law_2861 (by decide) ?_
  refine lv_iadd C0.1 C0.2.1 dL_law_2862 ?_
  obtain ⟨e3, h⟩ := h
  refine va_sld C0.1 C0.2.1 hX9 hbl9 hbA9 hS e3 dL_law_2863 ?_
  refine lv_aload_n C0.1 C0.2.1 dL_law_2864 rfl (lv_at hl 1 rfl) ?_
  refine lv_iload C0.1 C0.2.1 dL_law_2865 (lv_at hl 6 rfl) ?_
  refine lv_iconst (v := 2) C0.1 C0.2.1 dL_law_2867 (by decide) ?_
  refine lv_iadd C0.1 C0.2.1 dL_law_2868 ?_
  obtain ⟨e4, h⟩ := h
  refine va_sld C0.1 C0.2.1 hX9 hbl9 hbA9 hS e4 dL_law_2869 ?_
  refine lv_aload_n C0.1 C0.2.1 dL_law_2870 rfl (lv_at hl 1 rfl) ?_
  refine lv_iload C0.1 C0.2.1 dL_law_2871 (lv_at hl 6 rfl) ?_
  refine lv_iconst (v := 3) C0.1 C0.2.1 dL_law_2873 (by decide) ?_
  refine lv_iadd C0.1 C0.2.1 dL_law_2874 ?_
  obtain ⟨e5, h⟩ := h
  refine va_sld C0.1 C0.2.1 hX9 hbl9 hbA9 hS e5 dL_law_2875 ?_
  refine lv_if_eq (tgt := 2883) C0.1 C0.2.1 dL_law_2876 (by decide) (fun c6 => ?_) (fun c6 => ?_)
  · replace h := h.1 c6
    refine lv_iconst (v := 0) C0.1 C0.2.1 dL_law_2883 (by decide) ?_
    exact bL_law_b2884 C0 Y hl9 hX9 hbl9 hbA9 hend9 hk28 _ _ _ _ _ _ _ _ _ _ _ _ _ _ _ _ h hO hS (lv_sub hl [1, 2, 3, 4, 5, 6, 0] rfl) (by clear h; omega) (by clear h; omega)
  · replace h := h.2 c6
    refine lv_iconst (v := 1) C0.1 C0.2.1 dL_law_2879 (by decide) ?_
    refine lv_goto (tgt := 2884) C0.1 C0.2.1 dL_law_2880 (by decide) ?_
    exact bL_law_b2884 C0 Y hl9 hX9 hbl9 hbA9 hend9 hk28 _ _ _ _ _ _ _ _ _ _ _ _ _ _ _ _ h hO hS (lv_sub hl [1, 2, 3, 4, 5, 6, 0] rfl) (by clear h; omega) (by clear h; omega)
def wL_law_b2824 (x0 : (Nat → Int32)) (L9 : Nat) (k28 : Hp → Nat → Nat → Nat → Nat → Int32 → Prop) (S : Hp) (v1 : Nat) (v2 : Nat) (v3 : Nat) (v4 : Nat) (v5 : Int32) : Prop := vp_in (v5 + 1) L9 ∧ vp_in (v5 + 2) L9 ∧ vp_in (v5 + 3) L9 ∧ (((x0 (v5 + 3).toNatClampNeg) = 0 → wL_law_b2851 x0 L9 k28 S v1 v2 v3 v4 v5 v1 (x0 (v5 + 1).toNatClampNeg) (x0 (v5 + 2).toNatClampNeg) 0) ∧ (¬ ((x0 (v5 + 3).toNatClampNeg) = 0) → wL_law_b2851 x0 L9 k28 S v1 v2 v3 v4 v5 v1 (x0 (v5 + 1).toNatClampNeg) (x0 (v5 + 2).toNatClampNeg) 1))
set_option maxHeartbeats 4000000 in
set_option maxRecDepth 100000 in
theorem bL_law_b2824 {p : Program} {l : Launch} {e : Env} {s : State} {m : MethodId} {args : Array Value} {below : List Frame} {meth : Method} {c : Code} {G : Gw} {b9 : Nat} {Q : State → Prop} {x0 : (Nat → Int32)} {L9 : Nat} (C0 : Mx p s m c code 9 args yL_law.cls G) (Y : My meth (some .boolean)) (hl9 : l.stackTraces = false) (hX9 : va_X b9 L9 x0 s s.heap) (hbl9 : b9 < s.heap.size) (hbA9 : ¬ Ab G.b b9) (hend9 : ∀ (pc : Nat) (H : Heap) (locs : List Loc) (ls : Array Slot) (cells slots : Nat), decode code pc = .ok (.ireturn, 1) → va_S (Ab G.b) s.heap H locs → cells ≤ 603072 → slots ≤ 7198826 → W p l e room_1 s m args below meth c H locs cells slots Q (F0 m pc ls [.int 1])) {n9_28 : Nat} {k28 : Hp → Nat → Nat → Nat → Nat → Int32 → Prop} (hk28 : ∀ (S : Hp) (v1 : Nat) (v2 : Nat) (v3 : Nat) (v4 : Nat) (v5 : Int32) (H : Heap) (locs : List Loc) (ls : Array Slot) (cells slots : Nat), k28 S v1 v2 v3 v4 v5 → Ok G S H → va_S (Ab G.b) s.heap H locs → lv_has ls 9 [(0, .ref b9), (1, .ref v1), (2, .ref v2), (3, .ref v3), (4, .ref v4), (5, .int v5)] → cells + (n9_28 * 97 + 97) ≤ 603072 → slots + (n9_28 * 2225 + 2225) ≤ 7198826 → W p l e room_1 s m args below meth c H locs cells slots Q (F0 m 28 ls [])) : ∀ (S : Hp) (v1 : Nat) (v2 : Nat) (v3 : Nat) (v4 : Nat) (v5 : Int32) (H : Heap) (locs : List Loc) (ls : Array Slot) (cells slots : Nat), wL_law_b2824 x0 L9 k28 S v1 v2 v3 v4 v5 → Ok G S H → va_S (Ab G.b) s.heap H locs → lv_has ls 9 [(0, .ref b9), (1, .ref v1), (2, .ref v2), (3, .ref v3), (4, .ref v4), (5, .int v5)] → cells + (n9_28 * 97 + 99) ≤ 603072 → slots + (n9_28 * 2225 + 2237) ≤ 7198826 → W p l e room_1 s m args below meth c H locs cells slots Q (F0 m 2824 ls []) := by
  intro S v1 v2 v3 v4 v5 H locs ls cells slots h hO hS hl hcc hss
  unfold wL_law_b2824 at h
  refine lv_aload_n C0.1 C0.2.1 dL_law_2824 rfl (lv_at hl 1 rfl) ?_
  refine lv_aload_n C0.1 C0.2.1 dL_law_2825 rfl (lv_at hl 0 rfl) ?_
  refine lv_iload C0.1 C0.2.1 dL_law_2826 (lv_at hl 5 rfl) ?_
  refine lv_iconst (v := 1) C0.1 C0.2.1 dL_law_2828 (by decide) ?_
  refine lv_iadd C0.1 C0.2.1 dL_law_2829 ?_
  obtain ⟨e1, h⟩ := h
  refine va_sld C0.1 C0.2.1 hX9 hbl9 hbA9 hS e1 dL_law_2830 ?_
  refine lv_aload_n C0.1 C0.2.1 dL_law_2831 rfl (lv_at hl 0 rfl) ?_
  refine lv_iload C0.1 C0.2.1 dL_law_2832 (lv_at hl 5 rfl) ?_
  refine lv_iconst (v := 2) C0.1 C0.2.1 dL_law_2834 (by decide) ?_
  refine lv_iadd C0.1 C0.2.1 dL_law_2835 ?_
  obtain ⟨e2, h⟩ := h
  refine va_sld C0.1 C0.2.1 hX9 hbl9 hbA9 hS e2 dL_law_2836 ?_
  refine lv_aload_n C0.1 C0.2.1 dL_law_2837 rfl (lv_at hl 0 rfl) ?_
  refine lv_iload C0.1 C0.2.1 dL_law_2838 (lv_at hl 5 rfl) ?_
  refine lv_iconst (v := 3) C0.1 C0.2.1 dL_law_2840 (by decide) ?_
  refine lv_iadd C0.1 C0.2.1 dL_law_2841 ?_
  obtain ⟨e3, h⟩ := h
  refine va_sld C0.1 C0.2.1 hX9 hbl9 hbA9 hS e3 dL_law_2842 ?_
  refine lv_if_eq (tgt := 2850) C0.1 C0.2.1 dL_law_2843 (by decide) (fun c4 => ?_) (fun c4 => ?_)
  · replace h := h.1 c4
    refine lv_iconst (v := 0) C0.1 C0.2.1 dL_law_2850 (by decide) ?_
    exact bL_law_b2851 C0 Y hl9 hX9 hbl9 hbA9 hend9 hk28 _ _ _ _ _ _ _ _ _ _ _ _ _ _ _ h hO hS (lv_sub hl [0, 1, 2, 3, 4, 5] rfl) (by clear h; omega) (by clear h; omega)
  · replace h := h.2 c4
    refine lv_iconst (v := 1) C0.1 C0.2.1 dL_law_2846 (by decide) ?_
    refine lv_goto (tgt := 2851) C0.1 C0.2.1 dL_law_2847 (by decide) ?_
    exact bL_law_b2851 C0 Y hl9 hX9 hbl9 hbA9 hend9 hk28 _ _ _ _ _ _ _ _ _ _ _ _ _ _ _ h hO hS (lv_sub hl [0, 1, 2, 3, 4, 5] rfl) (by clear h; omega) (by clear h; omega)
def wL_law_b2985 (x0 : (Nat → Int32)) (L9 : Nat) (k28 : Hp → Nat → Nat → Nat → Nat → Int32 → Prop) (S : Hp) (v1 : Nat) (v2 : Nat) (v3 : Nat) (v4 : Nat) (v5 : Int32) : Prop := wL_law_b3146 x0 L9 k28 S v1 v2 v3 v4 v5
set_option maxHeartbeats 4000000 in
set_option maxRecDepth 100000 in
theorem bL_law_b2985 {p : Program} {l : Launch} {e : Env} {s : State} {m : MethodId} {args : Array Value} {below : List Frame} {meth : Method} {c : Code} {G : Gw} {b9 : Nat} {Q : State → Prop} {x0 : (Nat → Int32)} {L9 : Nat} (C0 : Mx p s m c code 9 args yL_law.cls G) (Y : My meth (some .boolean)) (hl9 : l.stackTraces = false) (hX9 : va_X b9 L9 x0 s s.heap) (hbl9 : b9 < s.heap.size) (hbA9 : ¬ Ab G.b b9) (hend9 : ∀ (pc : Nat) (H : Heap) (locs : List Loc) (ls : Array Slot) (cells slots : Nat), decode code pc = .ok (.ireturn, 1) → va_S (Ab G.b) s.heap H locs → cells ≤ 603072 → slots ≤ 7198826 → W p l e room_1 s m args below meth c H locs cells slots Q (F0 m pc ls [.int 1])) {n9_28 : Nat} {k28 : Hp → Nat → Nat → Nat → Nat → Int32 → Prop} (hk28 : ∀ (S : Hp) (v1 : Nat) (v2 : Nat) (v3 : Nat) (v4 : Nat) (v5 : Int32) (H : Heap) (locs : List Loc) (ls : Array Slot) (cells slots : Nat), k28 S v1 v2 v3 v4 v5 → Ok G S H → va_S (Ab G.b) s.heap H locs → lv_has ls 9 [(0, .ref b9), (1, .ref v1), (2, .ref v2), (3, .ref v3), (4, .ref v4), (5, .int v5)] → cells + (n9_28 * 97 + 97) ≤ 603072 → slots + (n9_28 * 2225 + 2225) ≤ 7198826 → W p l e room_1 s m args below meth c H locs cells slots Q (F0 m 28 ls [])) : ∀ (S : Hp) (v1 : Nat) (v2 : Nat) (v3 : Nat) (v4 : Nat) (v5 : Int32) (H : Heap) (locs : List Loc) (ls : Array Slot) (cells slots : Nat), wL_law_b2985 x0 L9 k28 S v1 v2 v3 v4 v5 → Ok G S H → va_S (Ab G.b) s.heap H locs → lv_has ls 9 [(0, .ref b9), (1, .ref v1), (2, .ref v2), (3, .ref v3), (4, .ref v4), (5, .int v5)] → cells + (n9_28 * 97 + 97) ≤ 603072 → slots + (n9_28 * 2225 + 2225) ≤ 7198826 → W p l e room_1 s m args below meth c H locs cells slots Q (F0 m 2985 ls []) := by
  intro S v1 v2 v3 v4 v5 H locs ls cells slots h hO hS hl hcc hss
  unfold wL_law_b2985 at h
  refine lv_goto (tgt := 3146) C0.1 C0.2.1 dL_law_2985 (by decide) ?_
  exact bL_law_b3146 C0 Y hl9 hX9 hbl9 hbA9 hend9 hk28 _ _ _ _ _ _ _ _ _ _ _ h hO hS (lv_sub hl [0, 1, 2, 3, 4, 5] rfl) (by clear h; omega) (by clear h; omega)
def wL_law_b2920 (x0 : (Nat → Int32)) (L9 : Nat) (k28 : Hp → Nat → Nat → Nat → Nat → Int32 → Prop) (S : Hp) (v1 : Nat) (v2 : Nat) (v3 : Nat) (v4 : Nat) (v5 : Int32) : Prop := vp_in (v5 + 1) L9 ∧ vp_in (v5 + 2) L9 ∧ wL_pairs S v1 (x0 (v5 + 1).toNatClampNeg) (x0 (v5 + 2).toNatClampNeg) v3 (fun S3 r4 => vp_in (v5 + 1) L9 ∧ vp_in (v5 + 2) L9 ∧ isA S3 v2 8 ∧ wX8_pairs S3 v2 (x0 (v5 + 1).toNatClampNeg) (x0 (v5 + 2).toNatClampNeg) (fun S7 r8 => isA S7 v2 8 ∧ wX8_thrown S7 v2 (fun S10 r11 => ((r11 = r4 → ((¬ r4 = 0 → wL_law_b2985 x0 L9 k28 S10 v1 v2 v3 v4 v5) ∧ (r4 = 0 → isA S10 v3 22 ∧ vp_in 0 (S10.N v3) ∧ (((lg_cmp (S10.AJ v3 ((0 : Int32).toNatClampNeg)) r8.toInt64) = 0 → wL_law_b2985 x0 L9 k28 S10 v1 v2 v3 v4 v5) ∧ (¬ ((lg_cmp (S10.AJ v3 ((0 : Int32).toNatClampNeg)) r8.toInt64) = 0) → False))))) ∧ (¬ (r11 = r4) → False)))))
set_option maxHeartbeats 4000000 in
set_option maxRecDepth 100000 in
theorem bL_law_b2920 {p : Program} {l : Launch} {e : Env} {s : State} {m : MethodId} {args : Array Value} {below : List Frame} {meth : Method} {c : Code} {G : Gw} {b9 : Nat} {Q : State → Prop} {x0 : (Nat → Int32)} {L9 : Nat} (C0 : Mx p s m c code 9 args yL_law.cls G) (Y : My meth (some .boolean)) (hl9 : l.stackTraces = false) (hX9 : va_X b9 L9 x0 s s.heap) (hbl9 : b9 < s.heap.size) (hbA9 : ¬ Ab G.b b9) (hend9 : ∀ (pc : Nat) (H : Heap) (locs : List Loc) (ls : Array Slot) (cells slots : Nat), decode code pc = .ok (.ireturn, 1) → va_S (Ab G.b) s.heap H locs → cells ≤ 603072 → slots ≤ 7198826 → W p l e room_1 s m args below meth c H locs cells slots Q (F0 m pc ls [.int 1])) {n9_28 : Nat} {k28 : Hp → Nat → Nat → Nat → Nat → Int32 → Prop} (hk28 : ∀ (S : Hp) (v1 : Nat) (v2 : Nat) (v3 : Nat) (v4 : Nat) (v5 : Int32) (H : Heap) (locs : List Loc) (ls : Array Slot) (cells slots : Nat), k28 S v1 v2 v3 v4 v5 → Ok G S H → va_S (Ab G.b) s.heap H locs → lv_has ls 9 [(0, .ref b9), (1, .ref v1), (2, .ref v2), (3, .ref v3), (4, .ref v4), (5, .int v5)] → cells + (n9_28 * 97 + 97) ≤ 603072 → slots + (n9_28 * 2225 + 2225) ≤ 7198826 → W p l e room_1 s m args below meth c H locs cells slots Q (F0 m 28 ls [])) : ∀ (S : Hp) (v1 : Nat) (v2 : Nat) (v3 : Nat) (v4 : Nat) (v5 : Int32) (H : Heap) (locs : List Loc) (ls : Array Slot) (cells slots : Nat), wL_law_b2920 x0 L9 k28 S v1 v2 v3 v4 v5 → Ok G S H → va_S (Ab G.b) s.heap H locs → lv_has ls 9 [(0, .ref b9), (1, .ref v1), (2, .ref v2), (3, .ref v3), (4, .ref v4), (5, .int v5)] → cells + (n9_28 * 97 + 99) ≤ 603072 → slots + (n9_28 * 2225 + 2237) ≤ 7198826 → W p l e room_1 s m args below meth c H locs cells slots Q (F0 m 2920 ls []) := by
  intro S v1 v2 v3 v4 v5 H locs ls cells slots h hO hS hl hcc hss
  unfold wL_law_b2920 at h
  refine lv_aload_n C0.1 C0.2.1 dL_law_2920 rfl (lv_at hl 1 rfl) ?_
  refine lv_aload_n C0.1 C0.2.1 dL_law_2921 rfl (lv_at hl 0 rfl) ?_
  refine lv_iload C0.1 C0.2.1 dL_law_2922 (lv_at hl 5 rfl) ?_
  refine lv_iconst (v := 1) C0.1 C0.2.1 dL_law_2924 (by decide) ?_
  refine lv_iadd C0.1 C0.2.1 dL_law_2925 ?_
  obtain ⟨e1, h⟩ := h
  refine va_sld C0.1 C0.2.1 hX9 hbl9 hbA9 hS e1 dL_law_2926 ?_
  refine lv_aload_n C0.1 C0.2.1 dL_law_2927 rfl (lv_at hl 0 rfl) ?_
  refine lv_iload C0.1 C0.2.1 dL_law_2928 (lv_at hl 5 rfl) ?_
  refine lv_iconst (v := 2) C0.1 C0.2.1 dL_law_2930 (by decide) ?_
  refine lv_iadd C0.1 C0.2.1 dL_law_2931 ?_
  obtain ⟨e2, h⟩ := h
  refine va_sld C0.1 C0.2.1 hX9 hbl9 hbA9 hS e2 dL_law_2932 ?_
  refine lv_aload_n C0.1 C0.2.1 dL_law_2933 rfl (lv_at hl 3 rfl) ?_
  refine c_SW C0 hO hS (mL_pairs hl9 h) tb_1272 tb_1273 tb_73 tb_1274 hd_L_pairs rfl ⟨⟨by decide, by decide⟩, by show _ + 2 ≤ 603072; omega, by show _ + 12 ≤ 7198826; omega⟩ hl.1 rfl (Nat.le_of_ble_eq_true rfl) dL_law_2934 (kI (fun r4 S3 H locs h hO hS => ?_))
  change W _ _ _ _ _ _ _ _ _ _ _ _ (_ + 2) (_ + 12) _ _
  refine lv_istore C0.1 C0.2.1 dL_law_2937 hl (by decide) rfl (fun ls hl => ?_)
  refine lv_aload_n C0.1 C0.2.1 dL_law_2939 rfl (lv_at hl 3 rfl) ?_
  refine lv_aload_n C0.1 C0.2.1 dL_law_2940 rfl (lv_at hl 1 rfl) ?_
  refine lv_iload C0.1 C0.2.1 dL_law_2941 (lv_at hl 6 rfl) ?_
  refine lv_iconst (v := 1) C0.1 C0.2.1 dL_law_2943 (by decide) ?_
  refine lv_iadd C0.1 C0.2.1 dL_law_2944 ?_
  obtain ⟨e5, h⟩ := h
  refine va_sld C0.1 C0.2.1 hX9 hbl9 hbA9 hS e5 dL_law_2945 ?_
  refine lv_aload_n C0.1 C0.2.1 dL_law_2946 rfl (lv_at hl 1 rfl) ?_
  refine lv_iload C0.1 C0.2.1 dL_law_2947 (lv_at hl 6 rfl) ?_
  refine lv_iconst (v := 2) C0.1 C0.2.1 dL_law_2949 (by decide) ?_
  refine lv_iadd C0.1 C0.2.1 dL_law_2950 ?_
  obtain ⟨e6, h⟩ := h
  refine va_sld C0.1 C0.2.1 hX9 hbl9 hbA9 hS e6 dL_law_2951 ?_
  obtain ⟨i9, h⟩ := h
  refine c_V C0 hO hS (mX8_pairs h) i9 (by decide) rfl rfl tb_1760 tb_1761 tb_1762 tb_81 tb_1763 hd_X8_pairs rfl ⟨⟨by decide, by decide⟩, by show _ + 0 ≤ 603072; omega, by show _ + 0 ≤ 7198826; omega⟩ hl.1 rfl (Nat.le_of_ble_eq_true rfl) dL_law_2952 (kI (fun r8 S7 H locs h hO hS => ?_))
  change W _ _ _ _ _ _ _ _ _ _ _ _ (_ + 0) (_ + 0) _ _
  refine lv_istore C0.1 C0.2.1 dL_law_2955 hl (by decide) rfl (fun ls hl => ?_)
  refine lv_aload_n C0.1 C0.2.1 dL_law_2957 rfl (lv_at hl 4 rfl) ?_
  obtain ⟨i12, h⟩ := h
  refine c_V C0 hO hS (mX8_thrown h) i12 (by decide) rfl rfl tb_1443 tb_1444 tb_1445 tb_81 tb_1446 hd_X8_thrown rfl ⟨⟨by decide, by decide⟩, by show _ + 0 ≤ 603072; omega, by show _ + 0 ≤ 7198826; omega⟩ hl.1 rfl (Nat.le_of_ble_eq_true rfl) dL_law_2958 (kI (fun r11 S10 H locs h hO hS => ?_))
  change W _ _ _ _ _ _ _ _ _ _ _ _ (_ + 0) (_ + 0) _ _
  refine lv_iload C0.1 C0.2.1 dL_law_2961 (lv_at hl 1 rfl) ?_
  refine lv_icmp_eq (tgt := 2968) C0.1 C0.2.1 dL_law_2963 (by decide) (fun c13 => ?_) (fun c13 => ?_)
  · replace h := h.1 c13
    refine lv_iload C0.1 C0.2.1 dL_law_2968 (lv_at hl 1 rfl) ?_
    refine lv_if_ne (tgt := 2985) C0.1 C0.2.1 dL_law_2970 (by decide) (fun c14 => ?_) (fun c14 => ?_)
    · replace h := h.1 c14
      exact bL_law_b2985 C0 Y hl9 hX9 hbl9 hbA9 hend9 hk28 _ _ _ _ _ _ _ _ _ _ _ h hO hS (lv_sub hl [2, 3, 4, 5, 6, 7] rfl) (by clear h; omega) (by clear h; omega)
    · replace h := h.2 c14
      refine lv_aload_n C0.1 C0.2.1 dL_law_2973 rfl (lv_at hl 5 rfl) ?_
      refine lv_iconst (v := 0) C0.1 C0.2.1 dL_law_2974 (by decide) ?_
      obtain ⟨i15, h⟩ := h
      obtain ⟨e16, h⟩ := h
      refine r_lald C0 hO i15 e16 dL_law_2975 ?_
      refine lv_iload C0.1 C0.2.1 dL_law_2976 (lv_at hl 0 rfl) ?_
      refine lv_i2l C0.1 C0.2.1 dL_law_2978 rfl ?_
      refine W.lcmp C0.1 C0.2.1 dL_law_2979 ?_
      refine lv_if_eq (tgt := 2985) C0.1 C0.2.1 dL_law_2980 (by decide) (fun c17 => ?_) (fun c17 => ?_)
      · replace h := h.1 c17
        exact bL_law_b2985 C0 Y hl9 hX9 hbl9 hbA9 hend9 hk28 _ _ _ _ _ _ _ _ _ _ _ h hO hS (lv_sub hl [2, 3, 4, 5, 6, 7] rfl) (by clear h; omega) (by clear h; omega)
      · replace h := h.2 c17
        refine lv_iconst (v := 0) C0.1 C0.2.1 dL_law_2983 (by decide) ?_
        exact h.elim
  · replace h := h.2 c13
    refine lv_iconst (v := 0) C0.1 C0.2.1 dL_law_2966 (by decide) ?_
    exact h.elim
def wL_law_b2988 (x0 : (Nat → Int32)) (L9 : Nat) (k28 : Hp → Nat → Nat → Nat → Nat → Int32 → Prop) (S : Hp) (v1 : Nat) (v2 : Nat) (v3 : Nat) (v4 : Nat) (v5 : Int32) : Prop := isA S v1 7 ∧ wX7_checksum S v1 (fun S1 r2 => isA S1 v2 8 ∧ wX8_checksum S1 v2 (fun S4 r5 => (((lg_cmp r2 r5) = 0 → wL_law_b3146 x0 L9 k28 S4 v1 v2 v3 v4 v5) ∧ (¬ ((lg_cmp r2 r5) = 0) → False))))
set_option maxHeartbeats 4000000 in
set_option maxRecDepth 100000 in
theorem bL_law_b2988 {p : Program} {l : Launch} {e : Env} {s : State} {m : MethodId} {args : Array Value} {below : List Frame} {meth : Method} {c : Code} {G : Gw} {b9 : Nat} {Q : State → Prop} {x0 : (Nat → Int32)} {L9 : Nat} (C0 : Mx p s m c code 9 args yL_law.cls G) (Y : My meth (some .boolean)) (hl9 : l.stackTraces = false) (hX9 : va_X b9 L9 x0 s s.heap) (hbl9 : b9 < s.heap.size) (hbA9 : ¬ Ab G.b b9) (hend9 : ∀ (pc : Nat) (H : Heap) (locs : List Loc) (ls : Array Slot) (cells slots : Nat), decode code pc = .ok (.ireturn, 1) → va_S (Ab G.b) s.heap H locs → cells ≤ 603072 → slots ≤ 7198826 → W p l e room_1 s m args below meth c H locs cells slots Q (F0 m pc ls [.int 1])) {n9_28 : Nat} {k28 : Hp → Nat → Nat → Nat → Nat → Int32 → Prop} (hk28 : ∀ (S : Hp) (v1 : Nat) (v2 : Nat) (v3 : Nat) (v4 : Nat) (v5 : Int32) (H : Heap) (locs : List Loc) (ls : Array Slot) (cells slots : Nat), k28 S v1 v2 v3 v4 v5 → Ok G S H → va_S (Ab G.b) s.heap H locs → lv_has ls 9 [(0, .ref b9), (1, .ref v1), (2, .ref v2), (3, .ref v3), (4, .ref v4), (5, .int v5)] → cells + (n9_28 * 97 + 97) ≤ 603072 → slots + (n9_28 * 2225 + 2225) ≤ 7198826 → W p l e room_1 s m args below meth c H locs cells slots Q (F0 m 28 ls [])) : ∀ (S : Hp) (v1 : Nat) (v2 : Nat) (v3 : Nat) (v4 : Nat) (v5 : Int32) (H : Heap) (locs : List Loc) (ls : Array Slot) (cells slots : Nat), wL_law_b2988 x0 L9 k28 S v1 v2 v3 v4 v5 → Ok G S H → va_S (Ab G.b) s.heap H locs → lv_has ls 9 [(0, .ref b9), (1, .ref v1), (2, .ref v2), (3, .ref v3), (4, .ref v4), (5, .int v5)] → cells + (n9_28 * 97 + 97) ≤ 603072 → slots + (n9_28 * 2225 + 2225) ≤ 7198826 → W p l e room_1 s m args below meth c H locs cells slots Q (F0 m 2988 ls []) := by
  intro S v1 v2 v3 v4 v5 H locs ls cells slots h hO hS hl hcc hss
  unfold wL_law_b2988 at h
  refine lv_aload_n C0.1 C0.2.1 dL_law_2988 rfl (lv_at hl 1 rfl) ?_
  obtain ⟨i3, h⟩ := h
  refine c_V C0 hO hS (mX7_checksum h) i3 (by decide) rfl rfl tb_243 tb_244 tb_245 tb_74 tb_246 hd_X7_checksum rfl ⟨⟨by decide, by decide⟩, by show _ + 0 ≤ 603072; omega, by show _ + 0 ≤ 7198826; omega⟩ hl.1 rfl (Nat.le_of_ble_eq_true rfl) dL_law_2989 (kJ (fun r2 S1 H locs h hO hS => ?_))
  change W _ _ _ _ _ _ _ _ _ _ _ _ (_ + 0) (_ + 0) _ _
  refine lv_aload_n C0.1 C0.2.1 dL_law_2992 rfl (lv_at hl 2 rfl) ?_
  obtain ⟨i6, h⟩ := h
  refine c_V C0 hO hS (mX8_checksum h) i6 (by decide) rfl rfl tb_1764 tb_1765 tb_1766 tb_81 tb_1767 hd_X8_checksum rfl ⟨⟨by decide, by decide⟩, by show _ + 0 ≤ 603072; omega, by show _ + 0 ≤ 7198826; omega⟩ hl.1 rfl (Nat.le_of_ble_eq_true rfl) dL_law_2993 (kJ (fun r5 S4 H locs h hO hS => ?_))
  change W _ _ _ _ _ _ _ _ _ _ _ _ (_ + 0) (_ + 0) _ _
  refine W.lcmp C0.1 C0.2.1 dL_law_2996 ?_
  refine lv_if_eq (tgt := 3146) C0.1 C0.2.1 dL_law_2997 (by decide) (fun c7 => ?_) (fun c7 => ?_)
  · replace h := h.1 c7
    exact bL_law_b3146 C0 Y hl9 hX9 hbl9 hbA9 hend9 hk28 _ _ _ _ _ _ _ _ _ _ _ h hO hS (lv_sub hl [0, 1, 2, 3, 4, 5] rfl) (by clear h; omega) (by clear h; omega)
  · replace h := h.2 c7
    refine lv_iconst (v := 0) C0.1 C0.2.1 dL_law_3000 (by decide) ?_
    exact h.elim
def wL_law_b3065 (x0 : (Nat → Int32)) (L9 : Nat) (k28 : Hp → Nat → Nat → Nat → Nat → Int32 → Prop) (S : Hp) (v1 : Nat) (v2 : Nat) (v3 : Nat) (v4 : Nat) (v5 : Int32) : Prop := wL_law_b3146 x0 L9 k28 S v1 v2 v3 v4 v5
set_option maxHeartbeats 4000000 in
set_option maxRecDepth 100000 in
theorem bL_law_b3065 {p : Program} {l : Launch} {e : Env} {s : State} {m : MethodId} {args : Array Value} {below : List Frame} {meth : Method} {c : Code} {G : Gw} {b9 : Nat} {Q : State → Prop} {x0 : (Nat → Int32)} {L9 : Nat} (C0 : Mx p s m c code 9 args yL_law.cls G) (Y : My meth (some .boolean)) (hl9 : l.stackTraces = false) (hX9 : va_X b9 L9 x0 s s.heap) (hbl9 : b9 < s.heap.size) (hbA9 : ¬ Ab G.b b9) (hend9 : ∀ (pc : Nat) (H : Heap) (locs : List Loc) (ls : Array Slot) (cells slots : Nat), decode code pc = .ok (.ireturn, 1) → va_S (Ab G.b) s.heap H locs → cells ≤ 603072 → slots ≤ 7198826 → W p l e room_1 s m args below meth c H locs cells slots Q (F0 m pc ls [.int 1])) {n9_28 : Nat} {k28 : Hp → Nat → Nat → Nat → Nat → Int32 → Prop} (hk28 : ∀ (S : Hp) (v1 : Nat) (v2 : Nat) (v3 : Nat) (v4 : Nat) (v5 : Int32) (H : Heap) (locs : List Loc) (ls : Array Slot) (cells slots : Nat), k28 S v1 v2 v3 v4 v5 → Ok G S H → va_S (Ab G.b) s.heap H locs → lv_has ls 9 [(0, .ref b9), (1, .ref v1), (2, .ref v2), (3, .ref v3), (4, .ref v4), (5, .int v5)] → cells + (n9_28 * 97 + 97) ≤ 603072 → slots + (n9_28 * 2225 + 2225) ≤ 7198826 → W p l e room_1 s m args below meth c H locs cells slots Q (F0 m 28 ls [])) : ∀ (S : Hp) (v1 : Nat) (v2 : Nat) (v3 : Nat) (v4 : Nat) (v5 : Int32) (H : Heap) (locs : List Loc) (ls : Array Slot) (cells slots : Nat), wL_law_b3065 x0 L9 k28 S v1 v2 v3 v4 v5 → Ok G S H → va_S (Ab G.b) s.heap H locs → lv_has ls 9 [(0, .ref b9), (1, .ref v1), (2, .ref v2), (3, .ref v3), (4, .ref v4), (5, .int v5)] → cells + (n9_28 * 97 + 97) ≤ 603072 → slots + (n9_28 * 2225 + 2225) ≤ 7198826 → W p l e room_1 s m args below meth c H locs cells slots Q (F0 m 3065 ls []) := by
  intro S v1 v2 v3 v4 v5 H locs ls cells slots h hO hS hl hcc hss
  unfold wL_law_b3065 at h
  refine lv_goto (tgt := 3146) C0.1 C0.2.1 dL_law_3065 (by decide) ?_
  exact bL_law_b3146 C0 Y hl9 hX9 hbl9 hbA9 hend9 hk28 _ _ _ _ _ _ _ _ _ _ _ h hO hS (lv_sub hl [0, 1, 2, 3, 4, 5] rfl) (by clear h; omega) (by clear h; omega)
def wL_law_b3002 (x0 : (Nat → Int32)) (L9 : Nat) (k28 : Hp → Nat → Nat → Nat → Nat → Int32 → Prop) (S : Hp) (v1 : Nat) (v2 : Nat) (v3 : Nat) (v4 : Nat) (v5 : Int32) : Prop := wL_drivenShare S v1 v4 (fun S1 r2 => isA S1 v2 8 ∧ wX8_drivenShare S1 v2 (fun S3 r4 => isA S3 v2 8 ∧ wX8_thrown S3 v2 (fun S6 r7 => ((r7 = r2 → ((¬ r2 = 0 → wL_law_b3065 x0 L9 k28 S6 v1 v2 v3 v4 v5) ∧ (r2 = 0 → isA S6 v4 24 ∧ vp_in 0 (S6.N v4) ∧ vf_n64 (FP.f2d r4) ∧ Op.cmpValue (FP.dcmp (S6.AD v4 ((0 : Int32).toNatClampNeg)) (FP.f2d r4)) .l = 0 ∧ (((0 : Int32) = 0 → wL_law_b3065 x0 L9 k28 S6 v1 v2 v3 v4 v5) ∧ (¬ ((0 : Int32) = 0) → vp_in 0 (S6.N v4) ∧ vp_in 0 (S6.N v4) ∧ Op.cmpValue (FP.dcmp (S6.AD v4 ((0 : Int32).toNatClampNeg)) (S6.AD v4 ((0 : Int32).toNatClampNeg))) .l = 0 ∧ (((0 : Int32) = 0 → False) ∧ (¬ ((0 : Int32) = 0) → False))))))) ∧ (¬ (r7 = r2) → False)))))
set_option maxHeartbeats 4000000 in
set_option maxRecDepth 100000 in
theorem bL_law_b3002 {p : Program} {l : Launch} {e : Env} {s : State} {m : MethodId} {args : Array Value} {below : List Frame} {meth : Method} {c : Code} {G : Gw} {b9 : Nat} {Q : State → Prop} {x0 : (Nat → Int32)} {L9 : Nat} (C0 : Mx p s m c code 9 args yL_law.cls G) (Y : My meth (some .boolean)) (hl9 : l.stackTraces = false) (hX9 : va_X b9 L9 x0 s s.heap) (hbl9 : b9 < s.heap.size) (hbA9 : ¬ Ab G.b b9) (hend9 : ∀ (pc : Nat) (H : Heap) (locs : List Loc) (ls : Array Slot) (cells slots : Nat), decode code pc = .ok (.ireturn, 1) → va_S (Ab G.b) s.heap H locs → cells ≤ 603072 → slots ≤ 7198826 → W p l e room_1 s m args below meth c H locs cells slots Q (F0 m pc ls [.int 1])) {n9_28 : Nat} {k28 : Hp → Nat → Nat → Nat → Nat → Int32 → Prop} (hk28 : ∀ (S : Hp) (v1 : Nat) (v2 : Nat) (v3 : Nat) (v4 : Nat) (v5 : Int32) (H : Heap) (locs : List Loc) (ls : Array Slot) (cells slots : Nat), k28 S v1 v2 v3 v4 v5 → Ok G S H → va_S (Ab G.b) s.heap H locs → lv_has ls 9 [(0, .ref b9), (1, .ref v1), (2, .ref v2), (3, .ref v3), (4, .ref v4), (5, .int v5)] → cells + (n9_28 * 97 + 97) ≤ 603072 → slots + (n9_28 * 2225 + 2225) ≤ 7198826 → W p l e room_1 s m args below meth c H locs cells slots Q (F0 m 28 ls [])) : ∀ (S : Hp) (v1 : Nat) (v2 : Nat) (v3 : Nat) (v4 : Nat) (v5 : Int32) (H : Heap) (locs : List Loc) (ls : Array Slot) (cells slots : Nat), wL_law_b3002 x0 L9 k28 S v1 v2 v3 v4 v5 → Ok G S H → va_S (Ab G.b) s.heap H locs → lv_has ls 9 [(0, .ref b9), (1, .ref v1), (2, .ref v2), (3, .ref v3), (4, .ref v4), (5, .int v5)] → cells + (n9_28 * 97 + 98) ≤ 603072 → slots + (n9_28 * 2225 + 2231) ≤ 7198826 → W p l e room_1 s m args below meth c H locs cells slots Q (F0 m 3002 ls []) := by
  intro S v1 v2 v3 v4 v5 H locs ls cells slots h hO hS hl hcc hss
  unfold wL_law_b3002 at h
  refine lv_aload_n C0.1 C0.2.1 dL_law_3002 rfl (lv_at hl 1 rfl) ?_
  refine lv_aload C0.1 C0.2.1 dL_law_3003 (lv_at hl 4 rfl) ?_
  refine c_SW C0 hO hS (mL_drivenShare hl9 h) tb_1279 tb_1280 tb_73 tb_1281 hd_L_drivenShare rfl ⟨⟨by decide, by decide⟩, by show _ + 1 ≤ 603072; omega, by show _ + 6 ≤ 7198826; omega⟩ hl.1 rfl (Nat.le_of_ble_eq_true rfl) dL_law_3005 (kI (fun r2 S1 H locs h hO hS => ?_))
  change W _ _ _ _ _ _ _ _ _ _ _ _ (_ + 1) (_ + 6) _ _
  refine lv_istore C0.1 C0.2.1 dL_law_3008 hl (by decide) rfl (fun ls hl => ?_)
  refine lv_aload_n C0.1 C0.2.1 dL_law_3010 rfl (lv_at hl 3 rfl) ?_
  obtain ⟨i5, h⟩ := h
  refine c_V C0 hO hS (mX8_drivenShare h) i5 (by decide) rfl rfl tb_1770 tb_1771 tb_1772 tb_81 tb_1773 hd_X8_drivenShare rfl ⟨⟨by decide, by decide⟩, by show _ + 0 ≤ 603072; omega, by show _ + 0 ≤ 7198826; omega⟩ hl.1 rfl (Nat.le_of_ble_eq_true rfl) dL_law_3011 (kF (fun r4 S3 H locs h hO hS => ?_))
  change W _ _ _ _ _ _ _ _ _ _ _ _ (_ + 0) (_ + 0) _ _
  refine lv_fstore C0.1 C0.2.1 dL_law_3014 hl (by decide) rfl (fun ls hl => ?_)
  refine lv_aload_n C0.1 C0.2.1 dL_law_3016 rfl (lv_at hl 4 rfl) ?_
  obtain ⟨i8, h⟩ := h
  refine c_V C0 hO hS (mX8_thrown h) i8 (by decide) rfl rfl tb_1443 tb_1444 tb_1445 tb_81 tb_1446 hd_X8_thrown rfl ⟨⟨by decide, by decide⟩, by show _ + 0 ≤ 603072; omega, by show _ + 0 ≤ 7198826; omega⟩ hl.1 rfl (Nat.le_of_ble_eq_true rfl) dL_law_3017 (kI (fun r7 S6 H locs h hO hS => ?_))
  change W _ _ _ _ _ _ _ _ _ _ _ _ (_ + 0) (_ + 0) _ _
  refine lv_iload C0.1 C0.2.1 dL_law_3020 (lv_at hl 1 rfl) ?_
  refine lv_icmp_eq (tgt := 3027) C0.1 C0.2.1 dL_law_3022 (by decide) (fun c9 => ?_) (fun c9 => ?_)
  · replace h := h.1 c9
    refine lv_iload C0.1 C0.2.1 dL_law_3027 (lv_at hl 1 rfl) ?_
    refine lv_if_ne (tgt := 3065) C0.1 C0.2.1 dL_law_3029 (by decide) (fun c10 => ?_) (fun c10 => ?_)
    · replace h := h.1 c10
      exact bL_law_b3065 C0 Y hl9 hX9 hbl9 hbA9 hend9 hk28 _ _ _ _ _ _ _ _ _ _ _ h hO hS (lv_sub hl [2, 3, 4, 5, 6, 7] rfl) (by clear h; omega) (by clear h; omega)
    · replace h := h.2 c10
      refine lv_aload C0.1 C0.2.1 dL_law_3032 (lv_at hl 6 rfl) ?_
      refine lv_iconst (v := 0) C0.1 C0.2.1 dL_law_3034 (by decide) ?_
      obtain ⟨i11, h⟩ := h
      obtain ⟨e12, h⟩ := h
      refine r_dald C0 hO i11 e12 dL_law_3035 ?_
      refine lv_fload C0.1 C0.2.1 dL_law_3036 (lv_at hl 0 rfl) ?_
      obtain ⟨e13, h⟩ := h
      refine lv_f2d C0.1 C0.2.1 dL_law_3038 e13 ?_
      obtain ⟨e14, h⟩ := h
      refine lv_dcmp C0.1 C0.2.1 dL_law_3039 ?_
      rw [e14]
      refine lv_if_eq (tgt := 3065) C0.1 C0.2.1 dL_law_3040 (by decide) (fun c15 => ?_) (fun c15 => ?_)
      · replace h := h.1 c15
        exact bL_law_b3065 C0 Y hl9 hX9 hbl9 hbA9 hend9 hk28 _ _ _ _ _ _ _ _ _ _ _ h hO hS (lv_sub hl [2, 3, 4, 5, 6, 7] rfl) (by clear h; omega) (by clear h; omega)
      · replace h := h.2 c15
        refine lv_aload C0.1 C0.2.1 dL_law_3043 (lv_at hl 6 rfl) ?_
        refine lv_iconst (v := 0) C0.1 C0.2.1 dL_law_3045 (by decide) ?_
        obtain ⟨e16, h⟩ := h
        refine r_dald C0 hO i11 e16 dL_law_3046 ?_
        refine lv_aload C0.1 C0.2.1 dL_law_3047 (lv_at hl 6 rfl) ?_
        refine lv_iconst (v := 0) C0.1 C0.2.1 dL_law_3049 (by decide) ?_
        obtain ⟨e17, h⟩ := h
        refine r_dald C0 hO i11 e17 dL_law_3050 ?_
        obtain ⟨e18, h⟩ := h
        refine lv_dcmp C0.1 C0.2.1 dL_law_3051 ?_
        rw [e18]
        refine lv_if_eq (tgt := 3063) C0.1 C0.2.1 dL_law_3052 (by decide) (fun c19 => ?_) (fun c19 => ?_)
        · replace h := h.1 c19
          refine lv_iconst (v := 0) C0.1 C0.2.1 dL_law_3063 (by decide) ?_
          exact h.elim
        · replace h := h.2 c19
          refine lv_fload C0.1 C0.2.1 dL_law_3055 (lv_at hl 0 rfl) ?_
          refine lv_fload C0.1 C0.2.1 dL_law_3057 (lv_at hl 0 rfl) ?_
          exact h.elim
  · replace h := h.2 c9
    refine lv_iconst (v := 0) C0.1 C0.2.1 dL_law_3025 (by decide) ?_
    exact h.elim
def wL_law_b3130 (x0 : (Nat → Int32)) (L9 : Nat) (k28 : Hp → Nat → Nat → Nat → Nat → Int32 → Prop) (S : Hp) (v1 : Nat) (v2 : Nat) (v3 : Nat) (v4 : Nat) (v5 : Int32) : Prop := wL_law_b3146 x0 L9 k28 S v1 v2 v3 v4 v5
set_option maxHeartbeats 4000000 in
set_option maxRecDepth 100000 in
theorem bL_law_b3130 {p : Program} {l : Launch} {e : Env} {s : State} {m : MethodId} {args : Array Value} {below : List Frame} {meth : Method} {c : Code} {G : Gw} {b9 : Nat} {Q : State → Prop} {x0 : (Nat → Int32)} {L9 : Nat} (C0 : Mx p s m c code 9 args yL_law.cls G) (Y : My meth (some .boolean)) (hl9 : l.stackTraces = false) (hX9 : va_X b9 L9 x0 s s.heap) (hbl9 : b9 < s.heap.size) (hbA9 : ¬ Ab G.b b9) (hend9 : ∀ (pc : Nat) (H : Heap) (locs : List Loc) (ls : Array Slot) (cells slots : Nat), decode code pc = .ok (.ireturn, 1) → va_S (Ab G.b) s.heap H locs → cells ≤ 603072 → slots ≤ 7198826 → W p l e room_1 s m args below meth c H locs cells slots Q (F0 m pc ls [.int 1])) {n9_28 : Nat} {k28 : Hp → Nat → Nat → Nat → Nat → Int32 → Prop} (hk28 : ∀ (S : Hp) (v1 : Nat) (v2 : Nat) (v3 : Nat) (v4 : Nat) (v5 : Int32) (H : Heap) (locs : List Loc) (ls : Array Slot) (cells slots : Nat), k28 S v1 v2 v3 v4 v5 → Ok G S H → va_S (Ab G.b) s.heap H locs → lv_has ls 9 [(0, .ref b9), (1, .ref v1), (2, .ref v2), (3, .ref v3), (4, .ref v4), (5, .int v5)] → cells + (n9_28 * 97 + 97) ≤ 603072 → slots + (n9_28 * 2225 + 2225) ≤ 7198826 → W p l e room_1 s m args below meth c H locs cells slots Q (F0 m 28 ls [])) : ∀ (S : Hp) (v1 : Nat) (v2 : Nat) (v3 : Nat) (v4 : Nat) (v5 : Int32) (H : Heap) (locs : List Loc) (ls : Array Slot) (cells slots : Nat), wL_law_b3130 x0 L9 k28 S v1 v2 v3 v4 v5 → Ok G S H → va_S (Ab G.b) s.heap H locs → lv_has ls 9 [(0, .ref b9), (1, .ref v1), (2, .ref v2), (3, .ref v3), (4, .ref v4), (5, .int v5)] → cells + (n9_28 * 97 + 97) ≤ 603072 → slots + (n9_28 * 2225 + 2225) ≤ 7198826 → W p l e room_1 s m args below meth c H locs cells slots Q (F0 m 3130 ls []) := by
  intro S v1 v2 v3 v4 v5 H locs ls cells slots h hO hS hl hcc hss
  unfold wL_law_b3130 at h
  refine lv_goto (tgt := 3146) C0.1 C0.2.1 dL_law_3130 (by decide) ?_
  exact bL_law_b3146 C0 Y hl9 hX9 hbl9 hbA9 hend9 hk28 _ _ _ _ _ _ _ _ _ _ _ h hO hS (lv_sub hl [0, 1, 2, 3, 4, 5] rfl) (by clear h; omega) (by clear h; omega)
def wL_law_b3068 (x0 : (Nat → Int32)) (L9 : Nat) (k28 : Hp → Nat → Nat → Nat → Nat → Int32 → Prop) (S : Hp) (v1 : Nat) (v2 : Nat) (v3 : Nat) (v4 : Nat) (v5 : Int32) : Prop := wL_meanWorn S v1 v4 (fun S1 r2 => isA S1 v2 8 ∧ wX8_meanWorn S1 v2 (fun S3 r4 => isA S3 v2 8 ∧ wX8_thrown S3 v2 (fun S6 r7 => ((r7 = r2 → ((¬ r2 = 0 → wL_law_b3130 x0 L9 k28 S6 v1 v2 v3 v4 v5) ∧ (r2 = 0 → isA S6 v4 24 ∧ vp_in 0 (S6.N v4) ∧ Op.cmpValue (FP.dcmp (S6.AD v4 ((0 : Int32).toNatClampNeg)) r4) .l = 0 ∧ (((0 : Int32) = 0 → wL_law_b3130 x0 L9 k28 S6 v1 v2 v3 v4 v5) ∧ (¬ ((0 : Int32) = 0) → vp_in 0 (S6.N v4) ∧ vp_in 0 (S6.N v4) ∧ Op.cmpValue (FP.dcmp (S6.AD v4 ((0 : Int32).toNatClampNeg)) (S6.AD v4 ((0 : Int32).toNatClampNeg))) .l = 0 ∧ (((0 : Int32) = 0 → False) ∧ (¬ ((0 : Int32) = 0) → Op.cmpValue (FP.dcmp r4 r4) .l = 0 ∧ ((¬ (0 : Int32) = 0 → wL_law_b3130 x0 L9 k28 S6 v1 v2 v3 v4 v5) ∧ ((0 : Int32) = 0 → False))))))))) ∧ (¬ (r7 = r2) → False)))))
set_option maxHeartbeats 4000000 in
set_option maxRecDepth 100000 in
theorem bL_law_b3068 {p : Program} {l : Launch} {e : Env} {s : State} {m : MethodId} {args : Array Value} {below : List Frame} {meth : Method} {c : Code} {G : Gw} {b9 : Nat} {Q : State → Prop} {x0 : (Nat → Int32)} {L9 : Nat} (C0 : Mx p s m c code 9 args yL_law.cls G) (Y : My meth (some .boolean)) (hl9 : l.stackTraces = false) (hX9 : va_X b9 L9 x0 s s.heap) (hbl9 : b9 < s.heap.size) (hbA9 : ¬ Ab G.b b9) (hend9 : ∀ (pc : Nat) (H : Heap) (locs : List Loc) (ls : Array Slot) (cells slots : Nat), decode code pc = .ok (.ireturn, 1) → va_S (Ab G.b) s.heap H locs → cells ≤ 603072 → slots ≤ 7198826 → W p l e room_1 s m args below meth c H locs cells slots Q (F0 m pc ls [.int 1])) {n9_28 : Nat} {k28 : Hp → Nat → Nat → Nat → Nat → Int32 → Prop} (hk28 : ∀ (S : Hp) (v1 : Nat) (v2 : Nat) (v3 : Nat) (v4 : Nat) (v5 : Int32) (H : Heap) (locs : List Loc) (ls : Array Slot) (cells slots : Nat), k28 S v1 v2 v3 v4 v5 → Ok G S H → va_S (Ab G.b) s.heap H locs → lv_has ls 9 [(0, .ref b9), (1, .ref v1), (2, .ref v2), (3, .ref v3), (4, .ref v4), (5, .int v5)] → cells + (n9_28 * 97 + 97) ≤ 603072 → slots + (n9_28 * 2225 + 2225) ≤ 7198826 → W p l e room_1 s m args below meth c H locs cells slots Q (F0 m 28 ls [])) : ∀ (S : Hp) (v1 : Nat) (v2 : Nat) (v3 : Nat) (v4 : Nat) (v5 : Int32) (H : Heap) (locs : List Loc) (ls : Array Slot) (cells slots : Nat), wL_law_b3068 x0 L9 k28 S v1 v2 v3 v4 v5 → Ok G S H → va_S (Ab G.b) s.heap H locs → lv_has ls 9 [(0, .ref b9), (1, .ref v1), (2, .ref v2), (3, .ref v3), (4, .ref v4), (5, .int v5)] → cells + (n9_28 * 97 + 98) ≤ 603072 → slots + (n9_28 * 2225 + 2231) ≤ 7198826 → W p l e room_1 s m args below meth c H locs cells slots Q (F0 m 3068 ls []) := by
  intro S v1 v2 v3 v4 v5 H locs ls cells slots h hO hS hl hcc hss
  unfold wL_law_b3068 at h
  refine lv_aload_n C0.1 C0.2.1 dL_law_3068 rfl (lv_at hl 1 rfl) ?_
  refine lv_aload C0.1 C0.2.1 dL_law_3069 (lv_at hl 4 rfl) ?_
  refine c_SW C0 hO hS (mL_meanWorn hl9 h) tb_1303 tb_1304 tb_73 tb_1305 hd_L_meanWorn rfl ⟨⟨by decide, by decide⟩, by show _ + 1 ≤ 603072; omega, by show _ + 6 ≤ 7198826; omega⟩ hl.1 rfl (Nat.le_of_ble_eq_true rfl) dL_law_3071 (kI (fun r2 S1 H locs h hO hS => ?_))
  change W _ _ _ _ _ _ _ _ _ _ _ _ (_ + 1) (_ + 6) _ _
  refine lv_istore C0.1 C0.2.1 dL_law_3074 hl (by decide) rfl (fun ls hl => ?_)
  refine lv_aload_n C0.1 C0.2.1 dL_law_3076 rfl (lv_at hl 3 rfl) ?_
  obtain ⟨i5, h⟩ := h
  refine c_V C0 hO hS (mX8_meanWorn h) i5 (by decide) rfl rfl tb_1778 tb_1779 tb_1780 tb_81 tb_1781 hd_X8_meanWorn rfl ⟨⟨by decide, by decide⟩, by show _ + 0 ≤ 603072; omega, by show _ + 0 ≤ 7198826; omega⟩ hl.1 rfl (Nat.le_of_ble_eq_true rfl) dL_law_3077 (kD (fun r4 S3 H locs h hO hS => ?_))
  change W _ _ _ _ _ _ _ _ _ _ _ _ (_ + 0) (_ + 0) _ _
  refine lv_dstore C0.1 C0.2.1 dL_law_3080 hl (by decide) rfl (fun ls hl => ?_)
  refine lv_aload_n C0.1 C0.2.1 dL_law_3082 rfl (lv_at hl 4 rfl) ?_
  obtain ⟨i8, h⟩ := h
  refine c_V C0 hO hS (mX8_thrown h) i8 (by decide) rfl rfl tb_1443 tb_1444 tb_1445 tb_81 tb_1446 hd_X8_thrown rfl ⟨⟨by decide, by decide⟩, by show _ + 0 ≤ 603072; omega, by show _ + 0 ≤ 7198826; omega⟩ hl.1 rfl (Nat.le_of_ble_eq_true rfl) dL_law_3083 (kI (fun r7 S6 H locs h hO hS => ?_))
  change W _ _ _ _ _ _ _ _ _ _ _ _ (_ + 0) (_ + 0) _ _
  refine lv_iload C0.1 C0.2.1 dL_law_3086 (lv_at hl 1 rfl) ?_
  refine lv_icmp_eq (tgt := 3093) C0.1 C0.2.1 dL_law_3088 (by decide) (fun c9 => ?_) (fun c9 => ?_)
  · replace h := h.1 c9
    refine lv_iload C0.1 C0.2.1 dL_law_3093 (lv_at hl 1 rfl) ?_
    refine lv_if_ne (tgt := 3130) C0.1 C0.2.1 dL_law_3095 (by decide) (fun c10 => ?_) (fun c10 => ?_)
    · replace h := h.1 c10
      exact bL_law_b3130 C0 Y hl9 hX9 hbl9 hbA9 hend9 hk28 _ _ _ _ _ _ _ _ _ _ _ h hO hS (lv_sub hl [2, 3, 4, 5, 6, 7] rfl) (by clear h; omega) (by clear h; omega)
    · replace h := h.2 c10
      refine lv_aload C0.1 C0.2.1 dL_law_3098 (lv_at hl 6 rfl) ?_
      refine lv_iconst (v := 0) C0.1 C0.2.1 dL_law_3100 (by decide) ?_
      obtain ⟨i11, h⟩ := h
      obtain ⟨e12, h⟩ := h
      refine r_dald C0 hO i11 e12 dL_law_3101 ?_
      refine lv_dload C0.1 C0.2.1 dL_law_3102 (lv_at hl 0 rfl) ?_
      obtain ⟨e13, h⟩ := h
      refine lv_dcmp C0.1 C0.2.1 dL_law_3104 ?_
      rw [e13]
      refine lv_if_eq (tgt := 3130) C0.1 C0.2.1 dL_law_3105 (by decide) (fun c14 => ?_) (fun c14 => ?_)
      · replace h := h.1 c14
        exact bL_law_b3130 C0 Y hl9 hX9 hbl9 hbA9 hend9 hk28 _ _ _ _ _ _ _ _ _ _ _ h hO hS (lv_sub hl [2, 3, 4, 5, 6, 7] rfl) (by clear h; omega) (by clear h; omega)
      · replace h := h.2 c14
        refine lv_aload C0.1 C0.2.1 dL_law_3108 (lv_at hl 6 rfl) ?_
        refine lv_iconst (v := 0) C0.1 C0.2.1 dL_law_3110 (by decide) ?_
        obtain ⟨e15, h⟩ := h
        refine r_dald C0 hO i11 e15 dL_law_3111 ?_
        refine lv_aload C0.1 C0.2.1 dL_law_3112 (lv_at hl 6 rfl) ?_
        refine lv_iconst (v := 0) C0.1 C0.2.1 dL_law_3114 (by decide) ?_
        obtain ⟨e16, h⟩ := h
        refine r_dald C0 hO i11 e16 dL_law_3115 ?_
        obtain ⟨e17, h⟩ := h
        refine lv_dcmp C0.1 C0.2.1 dL_law_3116 ?_
        rw [e17]
        refine lv_if_eq (tgt := 3128) C0.1 C0.2.1 dL_law_3117 (by decide) (fun c18 => ?_) (fun c18 => ?_)
        · replace h := h.1 c18
          refine lv_iconst (v := 0) C0.1 C0.2.1 dL_law_3128 (by decide) ?_
          exact h.elim
        · replace h := h.2 c18
          refine lv_dload C0.1 C0.2.1 dL_law_3120 (lv_at hl 0 rfl) ?_
          refine lv_dload C0.1 C0.2.1 dL_law_3122 (lv_at hl 0 rfl) ?_
          obtain ⟨e19, h⟩ := h
          refine lv_dcmp C0.1 C0.2.1 dL_law_3124 ?_
          rw [e19]
          refine lv_if_ne (tgt := 3130) C0.1 C0.2.1 dL_law_3125 (by decide) (fun c20 => ?_) (fun c20 => ?_)
          · replace h := h.1 c20
            exact bL_law_b3130 C0 Y hl9 hX9 hbl9 hbA9 hend9 hk28 _ _ _ _ _ _ _ _ _ _ _ h hO hS (lv_sub hl [2, 3, 4, 5, 6, 7] rfl) (by clear h; omega) (by clear h; omega)
          · replace h := h.2 c20
            refine lv_iconst (v := 0) C0.1 C0.2.1 dL_law_3128 (by decide) ?_
            exact h.elim
  · replace h := h.2 c9
    refine lv_iconst (v := 0) C0.1 C0.2.1 dL_law_3091 (by decide) ?_
    exact h.elim
def wL_law_b3133 (x0 : (Nat → Int32)) (L9 : Nat) (k28 : Hp → Nat → Nat → Nat → Nat → Int32 → Prop) (S : Hp) (v1 : Nat) (v2 : Nat) (v3 : Nat) (v4 : Nat) (v5 : Int32) : Prop := isA S v1 7 ∧ wX7_isSound S v1 (fun S1 r2 => isA S1 v2 8 ∧ wX8_isSound S1 v2 (fun S4 r5 => ((r2 = r5 → wL_law_b3146 x0 L9 k28 S4 v1 v2 v3 v4 v5) ∧ (¬ (r2 = r5) → False))))
set_option maxHeartbeats 4000000 in
set_option maxRecDepth 100000 in
theorem bL_law_b3133 {p : Program} {l : Launch} {e : Env} {s : State} {m : MethodId} {args : Array Value} {below : List Frame} {meth : Method} {c : Code} {G : Gw} {b9 : Nat} {Q : State → Prop} {x0 : (Nat → Int32)} {L9 : Nat} (C0 : Mx p s m c code 9 args yL_law.cls G) (Y : My meth (some .boolean)) (hl9 : l.stackTraces = false) (hX9 : va_X b9 L9 x0 s s.heap) (hbl9 : b9 < s.heap.size) (hbA9 : ¬ Ab G.b b9) (hend9 : ∀ (pc : Nat) (H : Heap) (locs : List Loc) (ls : Array Slot) (cells slots : Nat), decode code pc = .ok (.ireturn, 1) → va_S (Ab G.b) s.heap H locs → cells ≤ 603072 → slots ≤ 7198826 → W p l e room_1 s m args below meth c H locs cells slots Q (F0 m pc ls [.int 1])) {n9_28 : Nat} {k28 : Hp → Nat → Nat → Nat → Nat → Int32 → Prop} (hk28 : ∀ (S : Hp) (v1 : Nat) (v2 : Nat) (v3 : Nat) (v4 : Nat) (v5 : Int32) (H : Heap) (locs : List Loc) (ls : Array Slot) (cells slots : Nat), k28 S v1 v2 v3 v4 v5 → Ok G S H → va_S (Ab G.b) s.heap H locs → lv_has ls 9 [(0, .ref b9), (1, .ref v1), (2, .ref v2), (3, .ref v3), (4, .ref v4), (5, .int v5)] → cells + (n9_28 * 97 + 97) ≤ 603072 → slots + (n9_28 * 2225 + 2225) ≤ 7198826 → W p l e room_1 s m args below meth c H locs cells slots Q (F0 m 28 ls [])) : ∀ (S : Hp) (v1 : Nat) (v2 : Nat) (v3 : Nat) (v4 : Nat) (v5 : Int32) (H : Heap) (locs : List Loc) (ls : Array Slot) (cells slots : Nat), wL_law_b3133 x0 L9 k28 S v1 v2 v3 v4 v5 → Ok G S H → va_S (Ab G.b) s.heap H locs → lv_has ls 9 [(0, .ref b9), (1, .ref v1), (2, .ref v2), (3, .ref v3), (4, .ref v4), (5, .int v5)] → cells + (n9_28 * 97 + 119) ≤ 603072 → slots + (n9_28 * 2225 + 2269) ≤ 7198826 → W p l e room_1 s m args below meth c H locs cells slots Q (F0 m 3133 ls []) := by
  intro S v1 v2 v3 v4 v5 H locs ls cells slots h hO hS hl hcc hss
  unfold wL_law_b3133 at h
  refine lv_aload_n C0.1 C0.2.1 dL_law_3133 rfl (lv_at hl 1 rfl) ?_
  obtain ⟨i3, h⟩ := h
  refine c_V C0 hO hS (mX7_isSound h) i3 (by decide) rfl rfl tb_280 tb_281 tb_282 tb_74 tb_283 hd_X7_isSound rfl ⟨⟨by decide, by decide⟩, by show _ + 22 ≤ 603072; omega, by show _ + 44 ≤ 7198826; omega⟩ hl.1 rfl (Nat.le_of_ble_eq_true rfl) dL_law_3134 (kI (fun r2 S1 H locs h hO hS => ?_))
  change W _ _ _ _ _ _ _ _ _ _ _ _ (_ + 22) (_ + 44) _ _
  refine lv_aload_n C0.1 C0.2.1 dL_law_3137 rfl (lv_at hl 2 rfl) ?_
  obtain ⟨i6, h⟩ := h
  refine c_V C0 hO hS (mX8_isSound h) i6 (by decide) rfl rfl tb_1782 tb_1783 tb_1784 tb_81 tb_1785 hd_X8_isSound rfl ⟨⟨by decide, by decide⟩, by show _ + 0 ≤ 603072; omega, by show _ + 0 ≤ 7198826; omega⟩ hl.1 rfl (Nat.le_of_ble_eq_true rfl) dL_law_3138 (kI (fun r5 S4 H locs h hO hS => ?_))
  change W _ _ _ _ _ _ _ _ _ _ _ _ (_ + 0) (_ + 0) _ _
  refine lv_icmp_eq (tgt := 3146) C0.1 C0.2.1 dL_law_3141 (by decide) (fun c7 => ?_) (fun c7 => ?_)
  · replace h := h.1 c7
    exact bL_law_b3146 C0 Y hl9 hX9 hbl9 hbA9 hend9 hk28 _ _ _ _ _ _ _ _ _ _ _ h hO hS (lv_sub hl [0, 1, 2, 3, 4, 5] rfl) (by clear h; omega) (by clear h; omega)
  · replace h := h.2 c7
    refine lv_iconst (v := 0) C0.1 C0.2.1 dL_law_3144 (by decide) ?_
    exact h.elim
def wL_law_b28 (x0 : (Nat → Int32)) (L9 : Nat) (k28 : Hp → Nat → Nat → Nat → Nat → Int32 → Prop) (S : Hp) (v1 : Nat) (v2 : Nat) (v3 : Nat) (v4 : Nat) (v5 : Int32) : Prop := ((((Int32.ofNat L9) - 6) < v5 → True) ∧ (¬ (((Int32.ofNat L9) - 6) < v5) → vp_in v5 L9 ∧ ((((x0 v5.toNatClampNeg) &&& 63) = 0 → wL_law_b228 x0 L9 k28 S v1 v2 v3 v4 v5) ∧ (((x0 v5.toNatClampNeg) &&& 63) = 1 → wL_law_b272 x0 L9 k28 S v1 v2 v3 v4 v5) ∧ (((x0 v5.toNatClampNeg) &&& 63) = 2 → wL_law_b378 x0 L9 k28 S v1 v2 v3 v4 v5) ∧ (((x0 v5.toNatClampNeg) &&& 63) = 3 → wL_law_b482 x0 L9 k28 S v1 v2 v3 v4 v5) ∧ (((x0 v5.toNatClampNeg) &&& 63) = 4 → wL_law_b573 x0 L9 k28 S v1 v2 v3 v4 v5) ∧ (((x0 v5.toNatClampNeg) &&& 63) = 5 → wL_law_b641 x0 L9 k28 S v1 v2 v3 v4 v5) ∧ (((x0 v5.toNatClampNeg) &&& 63) = 6 → wL_law_b709 x0 L9 k28 S v1 v2 v3 v4 v5) ∧ (((x0 v5.toNatClampNeg) &&& 63) = 7 → wL_law_b777 x0 L9 k28 S v1 v2 v3 v4 v5) ∧ (((x0 v5.toNatClampNeg) &&& 63) = 8 → wL_law_b832 x0 L9 k28 S v1 v2 v3 v4 v5) ∧ (((x0 v5.toNatClampNeg) &&& 63) = 9 → wL_law_b887 x0 L9 k28 S v1 v2 v3 v4 v5) ∧ (((x0 v5.toNatClampNeg) &&& 63) = 10 → wL_law_b954 x0 L9 k28 S v1 v2 v3 v4 v5) ∧ (((x0 v5.toNatClampNeg) &&& 63) = 11 → wL_law_b1021 x0 L9 k28 S v1 v2 v3 v4 v5) ∧ (((x0 v5.toNatClampNeg) &&& 63) = 12 → wL_law_b1077 x0 L9 k28 S v1 v2 v3 v4 v5) ∧ (((x0 v5.toNatClampNeg) &&& 63) = 13 → wL_law_b1090 x0 L9 k28 S v1 v2 v3 v4 v5) ∧ (((x0 v5.toNatClampNeg) &&& 63) = 14 → wL_law_b1145 x0 L9 k28 S v1 v2 v3 v4 v5) ∧ (((x0 v5.toNatClampNeg) &&& 63) = 15 → wL_law_b1200 x0 L9 k28 S v1 v2 v3 v4 v5) ∧ (((x0 v5.toNatClampNeg) &&& 63) = 16 → wL_law_b1263 x0 L9 k28 S v1 v2 v3 v4 v5) ∧ (((x0 v5.toNatClampNeg) &&& 63) = 17 → wL_law_b1319 x0 L9 k28 S v1 v2 v3 v4 v5) ∧ (((x0 v5.toNatClampNeg) &&& 63) = 18 → wL_law_b1374 x0 L9 k28 S v1 v2 v3 v4 v5) ∧ (((x0 v5.toNatClampNeg) &&& 63) = 19 → wL_law_b1429 x0 L9 k28 S v1 v2 v3 v4 v5) ∧ (((x0 v5.toNatClampNeg) &&& 63) = 20 → wL_law_b1485 x0 L9 k28 S v1 v2 v3 v4 v5) ∧ (((x0 v5.toNatClampNeg) &&& 63) = 21 → wL_law_b1579 x0 L9 k28 S v1 v2 v3 v4 v5) ∧ (((x0 v5.toNatClampNeg) &&& 63) = 22 → wL_law_b1635 x0 L9 k28 S v1 v2 v3 v4 v5) ∧ (((x0 v5.toNatClampNeg) &&& 63) = 23 → wL_law_b1690 x0 L9 k28 S v1 v2 v3 v4 v5) ∧ (((x0 v5.toNatClampNeg) &&& 63) = 24 → wL_law_b1745 x0 L9 k28 S v1 v2 v3 v4 v5) ∧ (((x0 v5.toNatClampNeg) &&& 63) = 25 → wL_law_b1800 x0 L9 k28 S v1 v2 v3 v4 v5) ∧ (((x0 v5.toNatClampNeg) &&& 63) = 26 → wL_law_b1855 x0 L9 k28 S v1 v2 v3 v4 v5) ∧ (((x0 v5.toNatClampNeg) &&& 63) = 27 → wL_law_b1935 x0 L9 k28 S v1 v2 v3 v4 v5) ∧ (((x0 v5.toNatClampNeg) &&& 63) = 28 → wL_law_b2017 x0 L9 k28 S v1 v2 v3 v4 v5) ∧ (((x0 v5.toNatClampNeg) &&& 63) = 29 → wL_law_b2073 x0 L9 k28 S v1 v2 v3 v4 v5) ∧ (((x0 v5.toNatClampNeg) &&& 63) = 30 → wL_law_b2188 x0 L9 k28 S v1 v2 v3 v4 v5) ∧ (((x0 v5.toNatClampNeg) &&& 63) = 31 → wL_law_b2256 x0 L9 k28 S v1 v2 v3 v4 v5) ∧ (((x0 v5.toNatClampNeg) &&& 63) = 32 → wL_law_b2348 x0 L9 k28 S v1 v2 v3 v4 v5) ∧ (((x0 v5.toNatClampNeg) &&& 63) = 33 → wL_law_b2467 x0 L9 k28 S v1 v2 v3 v4 v5) ∧ (((x0 v5.toNatClampNeg) &&& 63) = 34 → wL_law_b2586 x0 L9 k28 S v1 v2 v3 v4 v5) ∧ (((x0 v5.toNatClampNeg) &&& 63) = 35 → wL_law_b2705 x0 L9 k28 S v1 v2 v3 v4 v5) ∧ (((x0 v5.toNatClampNeg) &&& 63) = 36 → wL_law_b2824 x0 L9 k28 S v1 v2 v3 v4 v5) ∧ (((x0 v5.toNatClampNeg) &&& 63) = 37 → wL_law_b2920 x0 L9 k28 S v1 v2 v3 v4 v5) ∧ (((x0 v5.toNatClampNeg) &&& 63) = 38 → wL_law_b2988 x0 L9 k28 S v1 v2 v3 v4 v5) ∧ (((x0 v5.toNatClampNeg) &&& 63) = 39 → wL_law_b3002 x0 L9 k28 S v1 v2 v3 v4 v5) ∧ (((x0 v5.toNatClampNeg) &&& 63) = 40 → wL_law_b3068 x0 L9 k28 S v1 v2 v3 v4 v5) ∧ (((x0 v5.toNatClampNeg) &&& 63) = 41 → wL_law_b3133 x0 L9 k28 S v1 v2 v3 v4 v5) ∧ ((((x0 v5.toNatClampNeg) &&& 63).toInt < 0 ∨ 41 < ((x0 v5.toNatClampNeg) &&& 63).toInt) → wL_law_b3146 x0 L9 k28 S v1 v2 v3 v4 v5))))
