def rm_L_law : Room := { frames := 91, cells := 668972, slots := 7086985, locals := 2093 }
def wL_law_b73 (x0 : (Nat → Int32)) (L9 : Nat) (k34 : Hp → Nat → Int32 → Int32 → Prop) (S : Hp) (v1 : Nat) (v3 : Int32) (z0 : Int32) (z1 : Int32) : Prop := k34 S v1 (z0 &&& z1) (v3 + 1)
set_option maxHeartbeats 4000000 in
set_option maxRecDepth 100000 in
theorem bL_law_b73 {p : Program} {l : Launch} {e : Env} {s : State} {m : MethodId} {args : Array Value} {below : List Frame} {meth : Method} {c : Code} {G : Gw} {Q : State → Prop}  (C0 : Mx p s m c code 37 args yL_law.cls G) (Y : My meth (some .boolean)) (hl9 : l.stackTraces = false) (hend9 : ∀ (pc : Nat) (H : Heap) (locs : List Loc) (ls : Array Slot) (cells slots : Nat), decode code pc = .ok (.ireturn, 1) → va_S (Ab G.b) s.heap H locs → cells ≤ 668972 → slots ≤ 7086985 → W p l e room_1 s m args below meth c H locs cells slots Q (F0 m pc ls [.int 1])) {n9_34 : Nat} {k34 : Hp → Nat → Int32 → Int32 → Prop} (hk34 : ∀ (S : Hp) (v1 : Nat) (v2 : Int32) (v3 : Int32) (H : Heap) (locs : List Loc) (ls : Array Slot) (cells slots : Nat), k34 S v1 v2 v3 → Ok G S H → va_S (Ab G.b) s.heap H locs → lv_has ls 37 [(0, .ref G.xb), (1, .ref v1), (2, .int v2), (3, .int v3)] → cells + (n9_34 * 3 + 2295) ≤ 668972 → slots + (n9_34 * 18 + 39434) ≤ 7086985 → W p l e room_1 s m args below meth c H locs cells slots Q (F0 m 34 ls [])) : ∀ (S : Hp) (v1 : Nat) (v3 : Int32) (z0 : Int32) (z1 : Int32) (H : Heap) (locs : List Loc) (ls : Array Slot) (cells slots : Nat), wL_law_b73 G.xs G.xl k34 S v1 v3 z0 z1 → Ok G S H → va_S (Ab G.b) s.heap H locs → lv_has ls 37 [(0, .ref G.xb), (1, .ref v1), (3, .int v3)] → cells + (n9_34 * 3 + 2295) ≤ 668972 → slots + (n9_34 * 18 + 39434) ≤ 7086985 → W p l e room_1 s m args below meth c H locs cells slots Q (F0 m 73 ls [.int z1, .int z0]) := by
  intro S v1 v3 z0 z1 H locs ls cells slots h hO hS hl hcc hss
  unfold wL_law_b73 at h
  refine lv_iand C0.1 C0.2.1 dL_law_73 ?_
  refine lv_istore_n C0.1 C0.2.1 dL_law_74 rfl hl (by decide) rfl (fun ls hl => ?_)
  refine lv_iinc (v := _ + 1) C0.1 C0.2.1 dL_law_75 hl (k := 3) rfl rfl (by decide) rfl (fun ls hl => ?_)
  refine lv_goto (tgt := 34) C0.1 C0.2.1 dL_law_78 (by decide) ?_
  exact hk34 _ _ _ _ _ _ _ _ _ h hO hS (lv_sub hl [2, 3, 1, 0] rfl) (by clear h; omega) (by clear h; omega)
def wL_law_b72 (x0 : (Nat → Int32)) (L9 : Nat) (k34 : Hp → Nat → Int32 → Int32 → Prop) (S : Hp) (v1 : Nat) (v3 : Int32) (z0 : Int32) : Prop := wL_law_b73 x0 L9 k34 S v1 v3 z0 0
set_option maxHeartbeats 4000000 in
set_option maxRecDepth 100000 in
theorem bL_law_b72 {p : Program} {l : Launch} {e : Env} {s : State} {m : MethodId} {args : Array Value} {below : List Frame} {meth : Method} {c : Code} {G : Gw} {Q : State → Prop}  (C0 : Mx p s m c code 37 args yL_law.cls G) (Y : My meth (some .boolean)) (hl9 : l.stackTraces = false) (hend9 : ∀ (pc : Nat) (H : Heap) (locs : List Loc) (ls : Array Slot) (cells slots : Nat), decode code pc = .ok (.ireturn, 1) → va_S (Ab G.b) s.heap H locs → cells ≤ 668972 → slots ≤ 7086985 → W p l e room_1 s m args below meth c H locs cells slots Q (F0 m pc ls [.int 1])) {n9_34 : Nat} {k34 : Hp → Nat → Int32 → Int32 → Prop} (hk34 : ∀ (S : Hp) (v1 : Nat) (v2 : Int32) (v3 : Int32) (H : Heap) (locs : List Loc) (ls : Array Slot) (cells slots : Nat), k34 S v1 v2 v3 → Ok G S H → va_S (Ab G.b) s.heap H locs → lv_has ls 37 [(0, .ref G.xb), (1, .ref v1), (2, .int v2), (3, .int v3)] → cells + (n9_34 * 3 + 2295) ≤ 668972 → slots + (n9_34 * 18 + 39434) ≤ 7086985 → W p l e room_1 s m args below meth c H locs cells slots Q (F0 m 34 ls [])) : ∀ (S : Hp) (v1 : Nat) (v3 : Int32) (z0 : Int32) (H : Heap) (locs : List Loc) (ls : Array Slot) (cells slots : Nat), wL_law_b72 G.xs G.xl k34 S v1 v3 z0 → Ok G S H → va_S (Ab G.b) s.heap H locs → lv_has ls 37 [(0, .ref G.xb), (1, .ref v1), (3, .int v3)] → cells + (n9_34 * 3 + 2295) ≤ 668972 → slots + (n9_34 * 18 + 39434) ≤ 7086985 → W p l e room_1 s m args below meth c H locs cells slots Q (F0 m 72 ls [.int z0]) := by
  intro S v1 v3 z0 H locs ls cells slots h hO hS hl hcc hss
  unfold wL_law_b72 at h
  refine lv_iconst (v := 0) C0.1 C0.2.1 dL_law_72 (by decide) ?_
  exact bL_law_b73 C0 Y hl9 hend9 hk34 _ _ _ _ _ _ _ _ _ _ h hO hS (lv_sub hl [0, 1, 2] rfl) (by clear h; omega) (by clear h; omega)
def wL_law_b395 (x0 : (Nat → Int32)) (L9 : Nat) (k132 : Hp → Nat → Int32 → Nat → Nat → Nat → Nat → Nat → Int32 → Prop) (S : Hp) (v1 : Nat) (v3 : Nat) (v4 : Nat) (v5 : Nat) (v6 : Nat) (v7 : Nat) (v8 : Int32) (z0 : Int32) (z1 : Int32) : Prop := k132 S v1 (z0 &&& z1) v3 v4 v5 v6 v7 (v8 + 1)
set_option maxHeartbeats 4000000 in
set_option maxRecDepth 100000 in
theorem bL_law_b395 {p : Program} {l : Launch} {e : Env} {s : State} {m : MethodId} {args : Array Value} {below : List Frame} {meth : Method} {c : Code} {G : Gw} {Q : State → Prop}  (C0 : Mx p s m c code 37 args yL_law.cls G) (Y : My meth (some .boolean)) (hl9 : l.stackTraces = false) (hend9 : ∀ (pc : Nat) (H : Heap) (locs : List Loc) (ls : Array Slot) (cells slots : Nat), decode code pc = .ok (.ireturn, 1) → va_S (Ab G.b) s.heap H locs → cells ≤ 668972 → slots ≤ 7086985 → W p l e room_1 s m args below meth c H locs cells slots Q (F0 m pc ls [.int 1])) {n9_132 : Nat} {k132 : Hp → Nat → Int32 → Nat → Nat → Nat → Nat → Nat → Int32 → Prop} (hk132 : ∀ (S : Hp) (v1 : Nat) (v2 : Int32) (v3 : Nat) (v4 : Nat) (v5 : Nat) (v6 : Nat) (v7 : Nat) (v8 : Int32) (H : Heap) (locs : List Loc) (ls : Array Slot) (cells slots : Nat), k132 S v1 v2 v3 v4 v5 v6 v7 v8 → Ok G S H → va_S (Ab G.b) s.heap H locs → lv_has ls 37 [(0, .ref G.xb), (1, .ref v1), (2, .int v2), (3, .ref v3), (4, .ref v4), (5, .ref v5), (6, .ref v6), (7, .ref v7), (8, .int v8)] → cells + (n9_132 * 282 + 1444) ≤ 668972 → slots + (n9_132 * 6621 + 19553) ≤ 7086985 → W p l e room_1 s m args below meth c H locs cells slots Q (F0 m 132 ls [])) : ∀ (S : Hp) (v1 : Nat) (v3 : Nat) (v4 : Nat) (v5 : Nat) (v6 : Nat) (v7 : Nat) (v8 : Int32) (z0 : Int32) (z1 : Int32) (H : Heap) (locs : List Loc) (ls : Array Slot) (cells slots : Nat), wL_law_b395 G.xs G.xl k132 S v1 v3 v4 v5 v6 v7 v8 z0 z1 → Ok G S H → va_S (Ab G.b) s.heap H locs → lv_has ls 37 [(0, .ref G.xb), (1, .ref v1), (3, .ref v3), (4, .ref v4), (5, .ref v5), (6, .ref v6), (7, .ref v7), (8, .int v8)] → cells + (n9_132 * 282 + 1444) ≤ 668972 → slots + (n9_132 * 6621 + 19553) ≤ 7086985 → W p l e room_1 s m args below meth c H locs cells slots Q (F0 m 395 ls [.int z1, .int z0]) := by
  intro S v1 v3 v4 v5 v6 v7 v8 z0 z1 H locs ls cells slots h hO hS hl hcc hss
  unfold wL_law_b395 at h
  refine lv_iand C0.1 C0.2.1 dL_law_395 ?_
  refine lv_istore_n C0.1 C0.2.1 dL_law_396 rfl hl (by decide) rfl (fun ls hl => ?_)
  refine lv_iinc (v := _ + 1) C0.1 C0.2.1 dL_law_397 hl (k := 8) rfl rfl (by decide) rfl (fun ls hl => ?_)
  refine lv_goto (tgt := 132) C0.1 C0.2.1 dL_law_400 (by decide) ?_
  exact hk132 _ _ _ _ _ _ _ _ _ _ _ _ _ _ h hO hS (lv_sub hl [2, 3, 1, 4, 5, 6, 7, 8, 0] rfl) (by clear h; omega) (by clear h; omega)
def wL_law_b394 (x0 : (Nat → Int32)) (L9 : Nat) (k132 : Hp → Nat → Int32 → Nat → Nat → Nat → Nat → Nat → Int32 → Prop) (S : Hp) (v1 : Nat) (v3 : Nat) (v4 : Nat) (v5 : Nat) (v6 : Nat) (v7 : Nat) (v8 : Int32) (z0 : Int32) : Prop := wL_law_b395 x0 L9 k132 S v1 v3 v4 v5 v6 v7 v8 z0 0
set_option maxHeartbeats 4000000 in
set_option maxRecDepth 100000 in
theorem bL_law_b394 {p : Program} {l : Launch} {e : Env} {s : State} {m : MethodId} {args : Array Value} {below : List Frame} {meth : Method} {c : Code} {G : Gw} {Q : State → Prop}  (C0 : Mx p s m c code 37 args yL_law.cls G) (Y : My meth (some .boolean)) (hl9 : l.stackTraces = false) (hend9 : ∀ (pc : Nat) (H : Heap) (locs : List Loc) (ls : Array Slot) (cells slots : Nat), decode code pc = .ok (.ireturn, 1) → va_S (Ab G.b) s.heap H locs → cells ≤ 668972 → slots ≤ 7086985 → W p l e room_1 s m args below meth c H locs cells slots Q (F0 m pc ls [.int 1])) {n9_132 : Nat} {k132 : Hp → Nat → Int32 → Nat → Nat → Nat → Nat → Nat → Int32 → Prop} (hk132 : ∀ (S : Hp) (v1 : Nat) (v2 : Int32) (v3 : Nat) (v4 : Nat) (v5 : Nat) (v6 : Nat) (v7 : Nat) (v8 : Int32) (H : Heap) (locs : List Loc) (ls : Array Slot) (cells slots : Nat), k132 S v1 v2 v3 v4 v5 v6 v7 v8 → Ok G S H → va_S (Ab G.b) s.heap H locs → lv_has ls 37 [(0, .ref G.xb), (1, .ref v1), (2, .int v2), (3, .ref v3), (4, .ref v4), (5, .ref v5), (6, .ref v6), (7, .ref v7), (8, .int v8)] → cells + (n9_132 * 282 + 1444) ≤ 668972 → slots + (n9_132 * 6621 + 19553) ≤ 7086985 → W p l e room_1 s m args below meth c H locs cells slots Q (F0 m 132 ls [])) : ∀ (S : Hp) (v1 : Nat) (v3 : Nat) (v4 : Nat) (v5 : Nat) (v6 : Nat) (v7 : Nat) (v8 : Int32) (z0 : Int32) (H : Heap) (locs : List Loc) (ls : Array Slot) (cells slots : Nat), wL_law_b394 G.xs G.xl k132 S v1 v3 v4 v5 v6 v7 v8 z0 → Ok G S H → va_S (Ab G.b) s.heap H locs → lv_has ls 37 [(0, .ref G.xb), (1, .ref v1), (3, .ref v3), (4, .ref v4), (5, .ref v5), (6, .ref v6), (7, .ref v7), (8, .int v8)] → cells + (n9_132 * 282 + 1444) ≤ 668972 → slots + (n9_132 * 6621 + 19553) ≤ 7086985 → W p l e room_1 s m args below meth c H locs cells slots Q (F0 m 394 ls [.int z0]) := by
  intro S v1 v3 v4 v5 v6 v7 v8 z0 H locs ls cells slots h hO hS hl hcc hss
  unfold wL_law_b394 at h
  refine lv_iconst (v := 0) C0.1 C0.2.1 dL_law_394 (by decide) ?_
  exact bL_law_b395 C0 Y hl9 hend9 hk132 _ _ _ _ _ _ _ _ _ _ _ _ _ _ _ h hO hS (lv_sub hl [0, 1, 2, 3, 4, 5, 6, 7] rfl) (by clear h; omega) (by clear h; omega)
def wL_law_b293 (x0 : (Nat → Int32)) (L9 : Nat) (k132 : Hp → Nat → Int32 → Nat → Nat → Nat → Nat → Nat → Int32 → Prop) (S : Hp) (v1 : Nat) (v2 : Int32) (v3 : Nat) (v4 : Nat) (v5 : Nat) (v6 : Nat) (v7 : Nat) (v8 : Int32) (z0 : Nat) (z1 : Int32) (z2 : Int32) : Prop := isA S z0 21 ∧ vp_in z1 (S.N z0) ∧ ∀ S3, S3 = S.setAI z0 z1.toNatClampNeg z2 → isA S3 v3 20 ∧ vp_in v8 (S3.N v3) ∧ isA S3 v6 21 ∧ vp_in v8 (S3.N v6) ∧ vp_in v8 (S3.N v6) ∧ isA S3 v4 21 ∧ vp_in v8 (S3.N v4) ∧ isA S3 v5 21 ∧ vp_in v8 (S3.N v5) ∧ wL_link S3 v1 (S3.AI v3 v8.toNatClampNeg) (S3.AI v6 v8.toNatClampNeg) (S3.AI v6 v8.toNatClampNeg) (S3.AI v4 v8.toNatClampNeg) (S3.AI v5 v8.toNatClampNeg) (fun S13 r14 => ((¬ r14 = (-900003) → wL_law_b394 x0 L9 k132 S13 v1 v3 v4 v5 v6 v7 v8 v2) ∧ (r14 = (-900003) → isA S13 v3 20 ∧ vp_in v8 (S13.N v3) ∧ isA S13 v6 21 ∧ vp_in v8 (S13.N v6) ∧ isA S13 v7 21 ∧ vp_in v8 (S13.N v7) ∧ isA S13 v4 21 ∧ vp_in v8 (S13.N v4) ∧ isA S13 v5 21 ∧ vp_in v8 (S13.N v5) ∧ wL_link S13 v1 (S13.AI v3 v8.toNatClampNeg) (S13.AI v6 v8.toNatClampNeg) (S13.AI v7 v8.toNatClampNeg) (S13.AI v4 v8.toNatClampNeg) (S13.AI v5 v8.toNatClampNeg) (fun S26 r27 => ((¬ r27 = v8 → wL_law_b394 x0 L9 k132 S26 v1 v3 v4 v5 v6 v7 v8 v2) ∧ (r27 = v8 → isA S26 v3 20 ∧ vp_in v8 (S26.N v3) ∧ isA S26 v7 21 ∧ vp_in v8 (S26.N v7) ∧ isA S26 v4 21 ∧ vp_in v8 (S26.N v4) ∧ isA S26 v5 21 ∧ vp_in v8 (S26.N v5) ∧ wL_link S26 v1 (S26.AI v3 v8.toNatClampNeg) 3 (S26.AI v7 v8.toNatClampNeg) (S26.AI v4 v8.toNatClampNeg) (S26.AI v5 v8.toNatClampNeg) (fun S37 r38 => ((¬ r38 = (-900003) → wL_law_b394 x0 L9 k132 S37 v1 v3 v4 v5 v6 v7 v8 v2) ∧ (r38 = (-900003) → wL_law_b395 x0 L9 k132 S37 v1 v3 v4 v5 v6 v7 v8 v2 1)))))))))
set_option maxHeartbeats 4000000 in
set_option maxRecDepth 100000 in
theorem bL_law_b293 {p : Program} {l : Launch} {e : Env} {s : State} {m : MethodId} {args : Array Value} {below : List Frame} {meth : Method} {c : Code} {G : Gw} {Q : State → Prop}  (C0 : Mx p s m c code 37 args yL_law.cls G) (Y : My meth (some .boolean)) (hl9 : l.stackTraces = false) (hend9 : ∀ (pc : Nat) (H : Heap) (locs : List Loc) (ls : Array Slot) (cells slots : Nat), decode code pc = .ok (.ireturn, 1) → va_S (Ab G.b) s.heap H locs → cells ≤ 668972 → slots ≤ 7086985 → W p l e room_1 s m args below meth c H locs cells slots Q (F0 m pc ls [.int 1])) {n9_132 : Nat} {k132 : Hp → Nat → Int32 → Nat → Nat → Nat → Nat → Nat → Int32 → Prop} (hk132 : ∀ (S : Hp) (v1 : Nat) (v2 : Int32) (v3 : Nat) (v4 : Nat) (v5 : Nat) (v6 : Nat) (v7 : Nat) (v8 : Int32) (H : Heap) (locs : List Loc) (ls : Array Slot) (cells slots : Nat), k132 S v1 v2 v3 v4 v5 v6 v7 v8 → Ok G S H → va_S (Ab G.b) s.heap H locs → lv_has ls 37 [(0, .ref G.xb), (1, .ref v1), (2, .int v2), (3, .ref v3), (4, .ref v4), (5, .ref v5), (6, .ref v6), (7, .ref v7), (8, .int v8)] → cells + (n9_132 * 282 + 1444) ≤ 668972 → slots + (n9_132 * 6621 + 19553) ≤ 7086985 → W p l e room_1 s m args below meth c H locs cells slots Q (F0 m 132 ls [])) : ∀ (S : Hp) (v1 : Nat) (v2 : Int32) (v3 : Nat) (v4 : Nat) (v5 : Nat) (v6 : Nat) (v7 : Nat) (v8 : Int32) (z0 : Nat) (z1 : Int32) (z2 : Int32) (H : Heap) (locs : List Loc) (ls : Array Slot) (cells slots : Nat), wL_law_b293 G.xs G.xl k132 S v1 v2 v3 v4 v5 v6 v7 v8 z0 z1 z2 → Ok G S H → va_S (Ab G.b) s.heap H locs → lv_has ls 37 [(0, .ref G.xb), (1, .ref v1), (2, .int v2), (3, .ref v3), (4, .ref v4), (5, .ref v5), (6, .ref v6), (7, .ref v7), (8, .int v8)] → cells + (n9_132 * 282 + 1726) ≤ 668972 → slots + (n9_132 * 6621 + 26174) ≤ 7086985 → W p l e room_1 s m args below meth c H locs cells slots Q (F0 m 293 ls [.int z2, .int z1, .ref z0]) := by
  intro S v1 v2 v3 v4 v5 v6 v7 v8 z0 z1 z2 H locs ls cells slots h hO hS hl hcc hss
  unfold wL_law_b293 at h
  obtain ⟨i1, h⟩ := h
  obtain ⟨e2, h⟩ := h
  refine r_iast C0 hO hS i1 e2 dL_law_293 (fun H locs hO hS => ?_)
  replace h := h _ rfl
  refine lv_iload_n C0.1 C0.2.1 dL_law_294 rfl (lv_at hl 2 rfl) ?_
  refine lv_aload_n C0.1 C0.2.1 dL_law_295 rfl (lv_at hl 1 rfl) ?_
  refine lv_aload_n C0.1 C0.2.1 dL_law_296 rfl (lv_at hl 3 rfl) ?_
  refine lv_iload C0.1 C0.2.1 dL_law_297 (lv_at hl 8 rfl) ?_
  obtain ⟨i4, h⟩ := h
  obtain ⟨e5, h⟩ := h
  refine r_cald C0 hO i4 e5 dL_law_299 ?_
  refine lv_aload C0.1 C0.2.1 dL_law_300 (lv_at hl 6 rfl) ?_
  refine lv_iload C0.1 C0.2.1 dL_law_302 (lv_at hl 8 rfl) ?_
  obtain ⟨i6, h⟩ := h
  obtain ⟨e7, h⟩ := h
  refine r_iald C0 hO i6 e7 dL_law_304 ?_
  refine lv_aload C0.1 C0.2.1 dL_law_305 (lv_at hl 6 rfl) ?_
  refine lv_iload C0.1 C0.2.1 dL_law_307 (lv_at hl 8 rfl) ?_
  obtain ⟨e8, h⟩ := h
  refine r_iald C0 hO i6 e8 dL_law_309 ?_
  refine lv_aload C0.1 C0.2.1 dL_law_310 (lv_at hl 4 rfl) ?_
  refine lv_iload C0.1 C0.2.1 dL_law_312 (lv_at hl 8 rfl) ?_
  obtain ⟨i9, h⟩ := h
  obtain ⟨e10, h⟩ := h
  refine r_iald C0 hO i9 e10 dL_law_314 ?_
  refine lv_aload C0.1 C0.2.1 dL_law_315 (lv_at hl 5 rfl) ?_
  refine lv_iload C0.1 C0.2.1 dL_law_317 (lv_at hl 8 rfl) ?_
  obtain ⟨i11, h⟩ := h
  obtain ⟨e12, h⟩ := h
  refine r_iald C0 hO i11 e12 dL_law_319 ?_
  refine c_SW C0 hO hS (mL_link hl9 h) tb_517 tb_518 tb_26 tb_519 hd_L_link rfl ⟨⟨by decide, by decide⟩, by show _ + 94 ≤ 668972; omega, by show _ + 2207 ≤ 7086985; omega⟩ hl.1 rfl (Nat.le_of_ble_eq_true rfl) dL_law_320 (kI (fun r14 S13 H locs h hO hS => ?_))
  change W _ _ _ _ _ _ _ _ _ _ _ _ (_ + 94) (_ + 2207) _ _
  refine lv_ldc (v := (-900003)) C0.1 C0.2.1 C0.2.2.2.1 (C0.2.2.2.2.1 _ tb_717) dL_law_323 ?_
  refine lv_icmp_ne (tgt := 394) C0.1 C0.2.1 dL_law_325 (by decide) (fun c15 => ?_) (fun c15 => ?_)
  · replace h := h.1 c15
    exact bL_law_b394 C0 Y hl9 hend9 hk132 _ _ _ _ _ _ _ _ _ _ _ _ _ _ h hO hS (lv_sub hl [0, 1, 3, 4, 5, 6, 7, 8] rfl) (by clear h; omega) (by clear h; omega)
  · replace h := h.2 c15
    refine lv_aload_n C0.1 C0.2.1 dL_law_328 rfl (lv_at hl 1 rfl) ?_
    refine lv_aload_n C0.1 C0.2.1 dL_law_329 rfl (lv_at hl 3 rfl) ?_
    refine lv_iload C0.1 C0.2.1 dL_law_330 (lv_at hl 8 rfl) ?_
    obtain ⟨i16, h⟩ := h
    obtain ⟨e17, h⟩ := h
    refine r_cald C0 hO i16 e17 dL_law_332 ?_
    refine lv_aload C0.1 C0.2.1 dL_law_333 (lv_at hl 6 rfl) ?_
    refine lv_iload C0.1 C0.2.1 dL_law_335 (lv_at hl 8 rfl) ?_
    obtain ⟨i18, h⟩ := h
    obtain ⟨e19, h⟩ := h
    refine r_iald C0 hO i18 e19 dL_law_337 ?_
    refine lv_aload C0.1 C0.2.1 dL_law_338 (lv_at hl 7 rfl) ?_
    refine lv_iload C0.1 C0.2.1 dL_law_340 (lv_at hl 8 rfl) ?_
    obtain ⟨i20, h⟩ := h
    obtain ⟨e21, h⟩ := h
    refine r_iald C0 hO i20 e21 dL_law_342 ?_
    refine lv_aload C0.1 C0.2.1 dL_law_343 (lv_at hl 4 rfl) ?_
    refine lv_iload C0.1 C0.2.1 dL_law_345 (lv_at hl 8 rfl) ?_
    obtain ⟨i22, h⟩ := h
    obtain ⟨e23, h⟩ := h
    refine r_iald C0 hO i22 e23 dL_law_347 ?_
    refine lv_aload C0.1 C0.2.1 dL_law_348 (lv_at hl 5 rfl) ?_
    refine lv_iload C0.1 C0.2.1 dL_law_350 (lv_at hl 8 rfl) ?_
    obtain ⟨i24, h⟩ := h
    obtain ⟨e25, h⟩ := h
    refine r_iald C0 hO i24 e25 dL_law_352 ?_
    refine c_SW C0 hO hS (mL_link hl9 h) tb_517 tb_518 tb_26 tb_519 hd_L_link rfl ⟨⟨by decide, by decide⟩, by show _ + 94 ≤ 668972; omega, by show _ + 2207 ≤ 7086985; omega⟩ hl.1 rfl (Nat.le_of_ble_eq_true rfl) dL_law_353 (kI (fun r27 S26 H locs h hO hS => ?_))
    change W _ _ _ _ _ _ _ _ _ _ _ _ (_ + 94) (_ + 2207) _ _
    refine lv_iload C0.1 C0.2.1 dL_law_356 (lv_at hl 8 rfl) ?_
    refine lv_icmp_ne (tgt := 394) C0.1 C0.2.1 dL_law_358 (by decide) (fun c28 => ?_) (fun c28 => ?_)
    · replace h := h.1 c28
      exact bL_law_b394 C0 Y hl9 hend9 hk132 _ _ _ _ _ _ _ _ _ _ _ _ _ _ h hO hS (lv_sub hl [0, 1, 3, 4, 5, 6, 7, 8] rfl) (by clear h; omega) (by clear h; omega)
    · replace h := h.2 c28
      refine lv_aload_n C0.1 C0.2.1 dL_law_361 rfl (lv_at hl 1 rfl) ?_
      refine lv_aload_n C0.1 C0.2.1 dL_law_362 rfl (lv_at hl 3 rfl) ?_
      refine lv_iload C0.1 C0.2.1 dL_law_363 (lv_at hl 8 rfl) ?_
      obtain ⟨i29, h⟩ := h
      obtain ⟨e30, h⟩ := h
      refine r_cald C0 hO i29 e30 dL_law_365 ?_
      refine lv_iconst (v := 3) C0.1 C0.2.1 dL_law_366 (by decide) ?_
      refine lv_aload C0.1 C0.2.1 dL_law_367 (lv_at hl 7 rfl) ?_
      refine lv_iload C0.1 C0.2.1 dL_law_369 (lv_at hl 8 rfl) ?_
      obtain ⟨i31, h⟩ := h
      obtain ⟨e32, h⟩ := h
      refine r_iald C0 hO i31 e32 dL_law_371 ?_
      refine lv_aload C0.1 C0.2.1 dL_law_372 (lv_at hl 4 rfl) ?_
      refine lv_iload C0.1 C0.2.1 dL_law_374 (lv_at hl 8 rfl) ?_
      obtain ⟨i33, h⟩ := h
      obtain ⟨e34, h⟩ := h
      refine r_iald C0 hO i33 e34 dL_law_376 ?_
      refine lv_aload C0.1 C0.2.1 dL_law_377 (lv_at hl 5 rfl) ?_
      refine lv_iload C0.1 C0.2.1 dL_law_379 (lv_at hl 8 rfl) ?_
      obtain ⟨i35, h⟩ := h
      obtain ⟨e36, h⟩ := h
      refine r_iald C0 hO i35 e36 dL_law_381 ?_
      refine c_SW C0 hO hS (mL_link hl9 h) tb_517 tb_518 tb_26 tb_519 hd_L_link rfl ⟨⟨by decide, by decide⟩, by show _ + 94 ≤ 668972; omega, by show _ + 2207 ≤ 7086985; omega⟩ hl.1 rfl (Nat.le_of_ble_eq_true rfl) dL_law_382 (kI (fun r38 S37 H locs h hO hS => ?_))
      change W _ _ _ _ _ _ _ _ _ _ _ _ (_ + 94) (_ + 2207) _ _
      refine lv_ldc (v := (-900003)) C0.1 C0.2.1 C0.2.2.2.1 (C0.2.2.2.2.1 _ tb_717) dL_law_385 ?_
      refine lv_icmp_ne (tgt := 394) C0.1 C0.2.1 dL_law_387 (by decide) (fun c39 => ?_) (fun c39 => ?_)
      · replace h := h.1 c39
        exact bL_law_b394 C0 Y hl9 hend9 hk132 _ _ _ _ _ _ _ _ _ _ _ _ _ _ h hO hS (lv_sub hl [0, 1, 3, 4, 5, 6, 7, 8] rfl) (by clear h; omega) (by clear h; omega)
      · replace h := h.2 c39
        refine lv_iconst (v := 1) C0.1 C0.2.1 dL_law_390 (by decide) ?_
        refine lv_goto (tgt := 395) C0.1 C0.2.1 dL_law_391 (by decide) ?_
        exact bL_law_b395 C0 Y hl9 hend9 hk132 _ _ _ _ _ _ _ _ _ _ _ _ _ _ _ h hO hS (lv_sub hl [0, 1, 3, 4, 5, 6, 7, 8] rfl) (by clear h; omega) (by clear h; omega)
def wL_law_b265 (x0 : (Nat → Int32)) (L9 : Nat) (k132 : Hp → Nat → Int32 → Nat → Nat → Nat → Nat → Nat → Int32 → Prop) (S : Hp) (v1 : Nat) (v2 : Int32) (v3 : Nat) (v4 : Nat) (v5 : Nat) (v6 : Nat) (v7 : Nat) (v8 : Int32) (v9 : Int32) (z0 : Nat) (z1 : Int32) (z2 : Int32) : Prop := isA S z0 21 ∧ vp_in z1 (S.N z0) ∧ ∀ S3, S3 = S.setAI z0 z1.toNatClampNeg z2 → ((2 ≤ v9 → wL_law_b293 x0 L9 k132 S3 v1 v2 v3 v4 v5 v6 v7 v8 v5 v8 0) ∧ (¬ (2 ≤ v9) → wL_in S3 x0 L9 (4 + v8) 25 (fun S5 r6 => wL_law_b293 x0 L9 k132 S5 v1 v2 v3 v4 v5 v6 v7 v8 v5 v8 (6 + r6))))
set_option maxHeartbeats 4000000 in
set_option maxRecDepth 100000 in
theorem bL_law_b265 {p : Program} {l : Launch} {e : Env} {s : State} {m : MethodId} {args : Array Value} {below : List Frame} {meth : Method} {c : Code} {G : Gw} {Q : State → Prop}  (C0 : Mx p s m c code 37 args yL_law.cls G) (Y : My meth (some .boolean)) (hl9 : l.stackTraces = false) (hend9 : ∀ (pc : Nat) (H : Heap) (locs : List Loc) (ls : Array Slot) (cells slots : Nat), decode code pc = .ok (.ireturn, 1) → va_S (Ab G.b) s.heap H locs → cells ≤ 668972 → slots ≤ 7086985 → W p l e room_1 s m args below meth c H locs cells slots Q (F0 m pc ls [.int 1])) {n9_132 : Nat} {k132 : Hp → Nat → Int32 → Nat → Nat → Nat → Nat → Nat → Int32 → Prop} (hk132 : ∀ (S : Hp) (v1 : Nat) (v2 : Int32) (v3 : Nat) (v4 : Nat) (v5 : Nat) (v6 : Nat) (v7 : Nat) (v8 : Int32) (H : Heap) (locs : List Loc) (ls : Array Slot) (cells slots : Nat), k132 S v1 v2 v3 v4 v5 v6 v7 v8 → Ok G S H → va_S (Ab G.b) s.heap H locs → lv_has ls 37 [(0, .ref G.xb), (1, .ref v1), (2, .int v2), (3, .ref v3), (4, .ref v4), (5, .ref v5), (6, .ref v6), (7, .ref v7), (8, .int v8)] → cells + (n9_132 * 282 + 1444) ≤ 668972 → slots + (n9_132 * 6621 + 19553) ≤ 7086985 → W p l e room_1 s m args below meth c H locs cells slots Q (F0 m 132 ls [])) : ∀ (S : Hp) (v1 : Nat) (v2 : Int32) (v3 : Nat) (v4 : Nat) (v5 : Nat) (v6 : Nat) (v7 : Nat) (v8 : Int32) (v9 : Int32) (z0 : Nat) (z1 : Int32) (z2 : Int32) (H : Heap) (locs : List Loc) (ls : Array Slot) (cells slots : Nat), wL_law_b265 G.xs G.xl k132 S v1 v2 v3 v4 v5 v6 v7 v8 v9 z0 z1 z2 → Ok G S H → va_S (Ab G.b) s.heap H locs → lv_has ls 37 [(0, .ref G.xb), (1, .ref v1), (2, .int v2), (3, .ref v3), (4, .ref v4), (5, .ref v5), (6, .ref v6), (7, .ref v7), (8, .int v8), (9, .int v9)] → cells + (n9_132 * 282 + 1726) ≤ 668972 → slots + (n9_132 * 6621 + 26174) ≤ 7086985 → W p l e room_1 s m args below meth c H locs cells slots Q (F0 m 265 ls [.int z2, .int z1, .ref z0]) := by
  intro S v1 v2 v3 v4 v5 v6 v7 v8 v9 z0 z1 z2 H locs ls cells slots h hO hS hl hcc hss
  unfold wL_law_b265 at h
  obtain ⟨i1, h⟩ := h
  obtain ⟨e2, h⟩ := h
  refine r_iast C0 hO hS i1 e2 dL_law_265 (fun H locs hO hS => ?_)
  replace h := h _ rfl
  refine lv_aload C0.1 C0.2.1 dL_law_266 (lv_at hl 5 rfl) ?_
  refine lv_iload C0.1 C0.2.1 dL_law_268 (lv_at hl 8 rfl) ?_
  refine lv_iload C0.1 C0.2.1 dL_law_270 (lv_at hl 9 rfl) ?_
  refine lv_iconst (v := 2) C0.1 C0.2.1 dL_law_272 (by decide) ?_
  refine lv_icmp_ge (tgt := 292) C0.1 C0.2.1 dL_law_273 (by decide) (fun c4 => ?_) (fun c4 => ?_)
  · replace h := h.1 c4
    refine lv_iconst (v := 0) C0.1 C0.2.1 dL_law_292 (by decide) ?_
    exact bL_law_b293 C0 Y hl9 hend9 hk132 _ _ _ _ _ _ _ _ _ _ _ _ _ _ _ _ _ h hO hS (lv_sub hl [0, 1, 2, 3, 4, 5, 6, 7, 8] rfl) (by clear h; omega) (by clear h; omega)
  · replace h := h.2 c4
    refine lv_bipush (v := 6) C0.1 C0.2.1 dL_law_276 (by decide) ?_
    refine lv_aload_n C0.1 C0.2.1 dL_law_278 rfl (lv_at hl 0 rfl) ?_
    refine lv_iconst (v := 4) C0.1 C0.2.1 dL_law_279 (by decide) ?_
    refine lv_iload C0.1 C0.2.1 dL_law_280 (lv_at hl 8 rfl) ?_
    refine lv_iadd C0.1 C0.2.1 dL_law_282 ?_
    refine lv_bipush (v := 25) C0.1 C0.2.1 dL_law_283 (by decide) ?_
    refine c_S C0 hO hS (mL_in h) tb_843 tb_844 tb_26 tb_845 hd_L_in rfl ⟨⟨by decide, by decide⟩, by show _ + 0 ≤ 668972; omega, by show _ + 0 ≤ 7086985; omega⟩ hl.1 rfl (Nat.le_of_ble_eq_true rfl) dL_law_285 (kI (fun r6 S5 H locs h hO hS => ?_))
    change W _ _ _ _ _ _ _ _ _ _ _ _ (_ + 0) (_ + 0) _ _
    refine lv_iadd C0.1 C0.2.1 dL_law_288 ?_
    refine lv_goto (tgt := 293) C0.1 C0.2.1 dL_law_289 (by decide) ?_
    exact bL_law_b293 C0 Y hl9 hend9 hk132 _ _ _ _ _ _ _ _ _ _ _ _ _ _ _ _ _ h hO hS (lv_sub hl [0, 1, 2, 3, 4, 5, 6, 7, 8] rfl) (by clear h; omega) (by clear h; omega)
def wL_law_b195 (x0 : (Nat → Int32)) (L9 : Nat) (k132 : Hp → Nat → Int32 → Nat → Nat → Nat → Nat → Nat → Int32 → Prop) (S : Hp) (v1 : Nat) (v2 : Int32) (v3 : Nat) (v4 : Nat) (v5 : Nat) (v6 : Nat) (v7 : Nat) (v8 : Int32) (v9 : Int32) (z0 : Nat) (z1 : Int32) (z2 : Int32) : Prop := isA S z0 20 ∧ vp_in z1 (S.N z0) ∧ nc z2 ∧ ∀ S4, S4 = S.setAI z0 z1.toNatClampNeg z2 → ((2 ≤ v9 → ((¬ v9 = 2 → ((¬ v9 = 3 → wL_law_b265 x0 L9 k132 S4 v1 v2 v3 v4 v5 v6 v7 v8 v9 v4 v8 0) ∧ (v9 = 3 → wL_in S4 x0 L9 (2 + v8) 22 (fun S8 r9 => wL_law_b265 x0 L9 k132 S8 v1 v2 v3 v4 v5 v6 v7 v8 v9 v4 v8 (3 + r9))))) ∧ (v9 = 2 → wL_in S4 x0 L9 (2 + v8) 10 (fun S10 r11 => wL_law_b265 x0 L9 k132 S10 v1 v2 v3 v4 v5 v6 v7 v8 v9 v4 v8 (3 + r11))))) ∧ (¬ (2 ≤ v9) → wL_in S4 x0 L9 (2 + v8) 25 (fun S12 r13 => wL_law_b265 x0 L9 k132 S12 v1 v2 v3 v4 v5 v6 v7 v8 v9 v4 v8 (6 + r13))))
set_option maxHeartbeats 4000000 in
set_option maxRecDepth 100000 in
theorem bL_law_b195 {p : Program} {l : Launch} {e : Env} {s : State} {m : MethodId} {args : Array Value} {below : List Frame} {meth : Method} {c : Code} {G : Gw} {Q : State → Prop}  (C0 : Mx p s m c code 37 args yL_law.cls G) (Y : My meth (some .boolean)) (hl9 : l.stackTraces = false) (hend9 : ∀ (pc : Nat) (H : Heap) (locs : List Loc) (ls : Array Slot) (cells slots : Nat), decode code pc = .ok (.ireturn, 1) → va_S (Ab G.b) s.heap H locs → cells ≤ 668972 → slots ≤ 7086985 → W p l e room_1 s m args below meth c H locs cells slots Q (F0 m pc ls [.int 1])) {n9_132 : Nat} {k132 : Hp → Nat → Int32 → Nat → Nat → Nat → Nat → Nat → Int32 → Prop} (hk132 : ∀ (S : Hp) (v1 : Nat) (v2 : Int32) (v3 : Nat) (v4 : Nat) (v5 : Nat) (v6 : Nat) (v7 : Nat) (v8 : Int32) (H : Heap) (locs : List Loc) (ls : Array Slot) (cells slots : Nat), k132 S v1 v2 v3 v4 v5 v6 v7 v8 → Ok G S H → va_S (Ab G.b) s.heap H locs → lv_has ls 37 [(0, .ref G.xb), (1, .ref v1), (2, .int v2), (3, .ref v3), (4, .ref v4), (5, .ref v5), (6, .ref v6), (7, .ref v7), (8, .int v8)] → cells + (n9_132 * 282 + 1444) ≤ 668972 → slots + (n9_132 * 6621 + 19553) ≤ 7086985 → W p l e room_1 s m args below meth c H locs cells slots Q (F0 m 132 ls [])) : ∀ (S : Hp) (v1 : Nat) (v2 : Int32) (v3 : Nat) (v4 : Nat) (v5 : Nat) (v6 : Nat) (v7 : Nat) (v8 : Int32) (v9 : Int32) (z0 : Nat) (z1 : Int32) (z2 : Int32) (H : Heap) (locs : List Loc) (ls : Array Slot) (cells slots : Nat), wL_law_b195 G.xs G.xl k132 S v1 v2 v3 v4 v5 v6 v7 v8 v9 z0 z1 z2 → Ok G S H → va_S (Ab G.b) s.heap H locs → lv_has ls 37 [(0, .ref G.xb), (1, .ref v1), (2, .int v2), (3, .ref v3), (4, .ref v4), (5, .ref v5), (6, .ref v6), (7, .ref v7), (8, .int v8), (9, .int v9)] → cells + (n9_132 * 282 + 1726) ≤ 668972 → slots + (n9_132 * 6621 + 26174) ≤ 7086985 → W p l e room_1 s m args below meth c H locs cells slots Q (F0 m 195 ls [.int z2, .int z1, .ref z0]) := by
  intro S v1 v2 v3 v4 v5 v6 v7 v8 v9 z0 z1 z2 H locs ls cells slots h hO hS hl hcc hss
  unfold wL_law_b195 at h
  obtain ⟨i1, h⟩ := h
  obtain ⟨e2, h⟩ := h
  obtain ⟨e3, h⟩ := h
  refine r_cast C0 hO hS i1 e2 e3 dL_law_195 (fun H locs hO hS => ?_)
  replace h := h _ rfl
  refine lv_aload C0.1 C0.2.1 dL_law_196 (lv_at hl 4 rfl) ?_
  refine lv_iload C0.1 C0.2.1 dL_law_198 (lv_at hl 8 rfl) ?_
  refine lv_iload C0.1 C0.2.1 dL_law_200 (lv_at hl 9 rfl) ?_
  refine lv_iconst (v := 2) C0.1 C0.2.1 dL_law_202 (by decide) ?_
  refine lv_icmp_ge (tgt := 222) C0.1 C0.2.1 dL_law_203 (by decide) (fun c5 => ?_) (fun c5 => ?_)
  · replace h := h.1 c5
    refine lv_iload C0.1 C0.2.1 dL_law_222 (lv_at hl 9 rfl) ?_
    refine lv_iconst (v := 2) C0.1 C0.2.1 dL_law_224 (by decide) ?_
    refine lv_icmp_ne (tgt := 243) C0.1 C0.2.1 dL_law_225 (by decide) (fun c6 => ?_) (fun c6 => ?_)
    · replace h := h.1 c6
      refine lv_iload C0.1 C0.2.1 dL_law_243 (lv_at hl 9 rfl) ?_
      refine lv_iconst (v := 3) C0.1 C0.2.1 dL_law_245 (by decide) ?_
      refine lv_icmp_ne (tgt := 264) C0.1 C0.2.1 dL_law_246 (by decide) (fun c7 => ?_) (fun c7 => ?_)
      · replace h := h.1 c7
        refine lv_iconst (v := 0) C0.1 C0.2.1 dL_law_264 (by decide) ?_
        exact bL_law_b265 C0 Y hl9 hend9 hk132 _ _ _ _ _ _ _ _ _ _ _ _ _ _ _ _ _ _ h hO hS (lv_sub hl [0, 1, 2, 3, 4, 5, 6, 7, 8, 9] rfl) (by clear h; omega) (by clear h; omega)
      · replace h := h.2 c7
        refine lv_iconst (v := 3) C0.1 C0.2.1 dL_law_249 (by decide) ?_
        refine lv_aload_n C0.1 C0.2.1 dL_law_250 rfl (lv_at hl 0 rfl) ?_
        refine lv_iconst (v := 2) C0.1 C0.2.1 dL_law_251 (by decide) ?_
        refine lv_iload C0.1 C0.2.1 dL_law_252 (lv_at hl 8 rfl) ?_
        refine lv_iadd C0.1 C0.2.1 dL_law_254 ?_
        refine lv_bipush (v := 22) C0.1 C0.2.1 dL_law_255 (by decide) ?_
        refine c_S C0 hO hS (mL_in h) tb_843 tb_844 tb_26 tb_845 hd_L_in rfl ⟨⟨by decide, by decide⟩, by show _ + 0 ≤ 668972; omega, by show _ + 0 ≤ 7086985; omega⟩ hl.1 rfl (Nat.le_of_ble_eq_true rfl) dL_law_257 (kI (fun r9 S8 H locs h hO hS => ?_))
        change W _ _ _ _ _ _ _ _ _ _ _ _ (_ + 0) (_ + 0) _ _
        refine lv_iadd C0.1 C0.2.1 dL_law_260 ?_
        refine lv_goto (tgt := 265) C0.1 C0.2.1 dL_law_261 (by decide) ?_
        exact bL_law_b265 C0 Y hl9 hend9 hk132 _ _ _ _ _ _ _ _ _ _ _ _ _ _ _ _ _ _ h hO hS (lv_sub hl [0, 1, 2, 3, 4, 5, 6, 7, 8, 9] rfl) (by clear h; omega) (by clear h; omega)
    · replace h := h.2 c6
      refine lv_iconst (v := 3) C0.1 C0.2.1 dL_law_228 (by decide) ?_
      refine lv_aload_n C0.1 C0.2.1 dL_law_229 rfl (lv_at hl 0 rfl) ?_
      refine lv_iconst (v := 2) C0.1 C0.2.1 dL_law_230 (by decide) ?_
      refine lv_iload C0.1 C0.2.1 dL_law_231 (lv_at hl 8 rfl) ?_
      refine lv_iadd C0.1 C0.2.1 dL_law_233 ?_
      refine lv_bipush (v := 10) C0.1 C0.2.1 dL_law_234 (by decide) ?_
      refine c_S C0 hO hS (mL_in h) tb_843 tb_844 tb_26 tb_845 hd_L_in rfl ⟨⟨by decide, by decide⟩, by show _ + 0 ≤ 668972; omega, by show _ + 0 ≤ 7086985; omega⟩ hl.1 rfl (Nat.le_of_ble_eq_true rfl) dL_law_236 (kI (fun r11 S10 H locs h hO hS => ?_))
      change W _ _ _ _ _ _ _ _ _ _ _ _ (_ + 0) (_ + 0) _ _
      refine lv_iadd C0.1 C0.2.1 dL_law_239 ?_
      refine lv_goto (tgt := 265) C0.1 C0.2.1 dL_law_240 (by decide) ?_
      exact bL_law_b265 C0 Y hl9 hend9 hk132 _ _ _ _ _ _ _ _ _ _ _ _ _ _ _ _ _ _ h hO hS (lv_sub hl [0, 1, 2, 3, 4, 5, 6, 7, 8, 9] rfl) (by clear h; omega) (by clear h; omega)
  · replace h := h.2 c5
    refine lv_bipush (v := 6) C0.1 C0.2.1 dL_law_206 (by decide) ?_
    refine lv_aload_n C0.1 C0.2.1 dL_law_208 rfl (lv_at hl 0 rfl) ?_
    refine lv_iconst (v := 2) C0.1 C0.2.1 dL_law_209 (by decide) ?_
    refine lv_iload C0.1 C0.2.1 dL_law_210 (lv_at hl 8 rfl) ?_
    refine lv_iadd C0.1 C0.2.1 dL_law_212 ?_
    refine lv_bipush (v := 25) C0.1 C0.2.1 dL_law_213 (by decide) ?_
    refine c_S C0 hO hS (mL_in h) tb_843 tb_844 tb_26 tb_845 hd_L_in rfl ⟨⟨by decide, by decide⟩, by show _ + 0 ≤ 668972; omega, by show _ + 0 ≤ 7086985; omega⟩ hl.1 rfl (Nat.le_of_ble_eq_true rfl) dL_law_215 (kI (fun r13 S12 H locs h hO hS => ?_))
    change W _ _ _ _ _ _ _ _ _ _ _ _ (_ + 0) (_ + 0) _ _
    refine lv_iadd C0.1 C0.2.1 dL_law_218 ?_
    refine lv_goto (tgt := 265) C0.1 C0.2.1 dL_law_219 (by decide) ?_
    exact bL_law_b265 C0 Y hl9 hend9 hk132 _ _ _ _ _ _ _ _ _ _ _ _ _ _ _ _ _ _ h hO hS (lv_sub hl [0, 1, 2, 3, 4, 5, 6, 7, 8, 9] rfl) (by clear h; omega) (by clear h; omega)
def wL_law_b1070 (x0 : (Nat → Int32)) (L9 : Nat) (k670 : Hp → Nat → Int32 → Nat → Nat → Nat → Nat → Nat → Nat → Nat → Nat → Nat → Nat → Int32 → Prop) (k747 : Hp → Nat → Int32 → Nat → Nat → Nat → Nat → Nat → Nat → Nat → Nat → Nat → Nat → Int32 → Int32 → Int32 → Int32 → Nat → Nat → Int32 → Prop) (k806 : Hp → Nat → Int32 → Nat → Nat → Nat → Nat → Nat → Nat → Nat → Nat → Nat → Nat → Int32 → Int32 → Int32 → Int32 → Nat → Nat → Int32 → Nat → Nat → Int32 → Prop) (S : Hp) (v1 : Nat) (v2 : Int32) (v3 : Nat) (v4 : Nat) (v5 : Nat) (v6 : Nat) (v7 : Nat) (v8 : Nat) (v9 : Nat) (v10 : Nat) (v11 : Nat) (v12 : Nat) (v13 : Int32) (v14 : Int32) (v15 : Int32) (v16 : Int32) (v17 : Nat) (v18 : Nat) (v19 : Int32) (v20 : Nat) (v21 : Nat) (v22 : Int32) (v30 : Int64) (v32 : Int64) : Prop := wL_common 90 S v30 v32 (fun S1 r2 => isA S1 v7 21 ∧ vp_in v22 (S1.N v7) ∧ ¬ r2 = 0 ∧ isA S1 v20 22 ∧ vp_in (S1.AI v7 v22.toNatClampNeg) (S1.N v20) ∧ ∀ S8, S8 = S1.setAJ v20 ((S1.AI v7 v22.toNatClampNeg).toNatClampNeg) (v30 / r2) → vp_in v22 (S8.N v7) ∧ ¬ r2 = 0 ∧ isA S8 v21 22 ∧ vp_in (S8.AI v7 v22.toNatClampNeg) (S8.N v21) ∧ ∀ S13, S13 = S8.setAJ v21 ((S8.AI v7 v22.toNatClampNeg).toNatClampNeg) (v32 / r2) → k806 S13 v1 v2 v3 v4 v5 v6 v7 v8 v9 v10 v11 v12 v13 v14 v15 v16 v17 v18 v19 v20 v21 (v22 + 1))
set_option maxHeartbeats 4000000 in
set_option maxRecDepth 100000 in
theorem bL_law_b1070 {p : Program} {l : Launch} {e : Env} {s : State} {m : MethodId} {args : Array Value} {below : List Frame} {meth : Method} {c : Code} {G : Gw} {Q : State → Prop}  (C0 : Mx p s m c code 37 args yL_law.cls G) (Y : My meth (some .boolean)) (hl9 : l.stackTraces = false) (hend9 : ∀ (pc : Nat) (H : Heap) (locs : List Loc) (ls : Array Slot) (cells slots : Nat), decode code pc = .ok (.ireturn, 1) → va_S (Ab G.b) s.heap H locs → cells ≤ 668972 → slots ≤ 7086985 → W p l e room_1 s m args below meth c H locs cells slots Q (F0 m pc ls [.int 1])) {n9_670 : Nat} {n9_747 : Nat} {k670 : Hp → Nat → Int32 → Nat → Nat → Nat → Nat → Nat → Nat → Nat → Nat → Nat → Nat → Int32 → Prop} (hk670 : ∀ (S : Hp) (v1 : Nat) (v2 : Int32) (v3 : Nat) (v4 : Nat) (v5 : Nat) (v6 : Nat) (v7 : Nat) (v8 : Nat) (v9 : Nat) (v10 : Nat) (v11 : Nat) (v12 : Nat) (v13 : Int32) (H : Heap) (locs : List Loc) (ls : Array Slot) (cells slots : Nat), k670 S v1 v2 v3 v4 v5 v6 v7 v8 v9 v10 v11 v12 v13 → Ok G S H → va_S (Ab G.b) s.heap H locs → lv_has ls 37 [(0, .ref G.xb), (1, .ref v1), (2, .int v2), (3, .ref v3), (4, .ref v4), (5, .ref v5), (6, .ref v6), (7, .ref v7), (8, .ref v8), (9, .ref v9), (10, .ref v10), (11, .ref v11), (12, .ref v12), (13, .int v13)] → cells + (n9_670 * 127 + 3) ≤ 668972 → slots + (n9_670 * 662 + 18) ≤ 7086985 → W p l e room_1 s m args below meth c H locs cells slots Q (F0 m 670 ls [])) {k747 : Hp → Nat → Int32 → Nat → Nat → Nat → Nat → Nat → Nat → Nat → Nat → Nat → Nat → Int32 → Int32 → Int32 → Int32 → Nat → Nat → Int32 → Prop} (hk747 : ∀ (S : Hp) (v1 : Nat) (v2 : Int32) (v3 : Nat) (v4 : Nat) (v5 : Nat) (v6 : Nat) (v7 : Nat) (v8 : Nat) (v9 : Nat) (v10 : Nat) (v11 : Nat) (v12 : Nat) (v13 : Int32) (v14 : Int32) (v15 : Int32) (v16 : Int32) (v17 : Nat) (v18 : Nat) (v19 : Int32) (H : Heap) (locs : List Loc) (ls : Array Slot) (cells slots : Nat), k747 S v1 v2 v3 v4 v5 v6 v7 v8 v9 v10 v11 v12 v13 v14 v15 v16 v17 v18 v19 → Ok G S H → va_S (Ab G.b) s.heap H locs → lv_has ls 37 [(0, .ref G.xb), (1, .ref v1), (2, .int v2), (3, .ref v3), (4, .ref v4), (5, .ref v5), (6, .ref v6), (7, .ref v7), (8, .ref v8), (9, .ref v9), (10, .ref v10), (11, .ref v11), (12, .ref v12), (13, .int v13), (14, .int v14), (15, .int v15), (16, .int v16), (17, .ref v17), (18, .ref v18), (19, .int v19)] → cells + (n9_670 * 127 + n9_747 * 2 + 30) ≤ 668972 → slots + (n9_670 * 662 + n9_747 * 10 + 180) ≤ 7086985 → W p l e room_1 s m args below meth c H locs cells slots Q (F0 m 747 ls [])) {k806 : Hp → Nat → Int32 → Nat → Nat → Nat → Nat → Nat → Nat → Nat → Nat → Nat → Nat → Int32 → Int32 → Int32 → Int32 → Nat → Nat → Int32 → Nat → Nat → Int32 → Prop} (hk806 : ∀ (S : Hp) (v1 : Nat) (v2 : Int32) (v3 : Nat) (v4 : Nat) (v5 : Nat) (v6 : Nat) (v7 : Nat) (v8 : Nat) (v9 : Nat) (v10 : Nat) (v11 : Nat) (v12 : Nat) (v13 : Int32) (v14 : Int32) (v15 : Int32) (v16 : Int32) (v17 : Nat) (v18 : Nat) (v19 : Int32) (v20 : Nat) (v21 : Nat) (v22 : Int32) (H : Heap) (locs : List Loc) (ls : Array Slot) (cells slots : Nat), k806 S v1 v2 v3 v4 v5 v6 v7 v8 v9 v10 v11 v12 v13 v14 v15 v16 v17 v18 v19 v20 v21 v22 → Ok G S H → va_S (Ab G.b) s.heap H locs → lv_has ls 37 [(0, .ref G.xb), (1, .ref v1), (2, .int v2), (3, .ref v3), (4, .ref v4), (5, .ref v5), (6, .ref v6), (7, .ref v7), (8, .ref v8), (9, .ref v9), (10, .ref v10), (11, .ref v11), (12, .ref v12), (13, .int v13), (14, .int v14), (15, .int v15), (16, .int v16), (17, .ref v17), (18, .ref v18), (19, .int v19), (20, .ref v20), (21, .ref v21), (22, .int v22)] → cells + (n9_670 * 127 + n9_747 * 2 + 30) ≤ 668972 → slots + (n9_670 * 662 + n9_747 * 10 + 180) ≤ 7086985 → W p l e room_1 s m args below meth c H locs cells slots Q (F0 m 806 ls [])) : ∀ (S : Hp) (v1 : Nat) (v2 : Int32) (v3 : Nat) (v4 : Nat) (v5 : Nat) (v6 : Nat) (v7 : Nat) (v8 : Nat) (v9 : Nat) (v10 : Nat) (v11 : Nat) (v12 : Nat) (v13 : Int32) (v14 : Int32) (v15 : Int32) (v16 : Int32) (v17 : Nat) (v18 : Nat) (v19 : Int32) (v20 : Nat) (v21 : Nat) (v22 : Int32) (v30 : Int64) (v32 : Int64) (H : Heap) (locs : List Loc) (ls : Array Slot) (cells slots : Nat), wL_law_b1070 G.xs G.xl k670 k747 k806 S v1 v2 v3 v4 v5 v6 v7 v8 v9 v10 v11 v12 v13 v14 v15 v16 v17 v18 v19 v20 v21 v22 v30 v32 → Ok G S H → va_S (Ab G.b) s.heap H locs → lv_has ls 37 [(0, .ref G.xb), (1, .ref v1), (2, .int v2), (3, .ref v3), (4, .ref v4), (5, .ref v5), (6, .ref v6), (7, .ref v7), (8, .ref v8), (9, .ref v9), (10, .ref v10), (11, .ref v11), (12, .ref v12), (13, .int v13), (14, .int v14), (15, .int v15), (16, .int v16), (17, .ref v17), (18, .ref v18), (19, .int v19), (20, .ref v20), (21, .ref v21), (22, .int v22), (30, .long v30), (32, .long v32)] → cells + (n9_670 * 127 + n9_747 * 2 + 30) ≤ 668972 → slots + (n9_670 * 662 + n9_747 * 10 + 180) ≤ 7086985 → W p l e room_1 s m args below meth c H locs cells slots Q (F0 m 1070 ls []) := by
  intro S v1 v2 v3 v4 v5 v6 v7 v8 v9 v10 v11 v12 v13 v14 v15 v16 v17 v18 v19 v20 v21 v22 v30 v32 H locs ls cells slots h hO hS hl hcc hss
  unfold wL_law_b1070 at h
  refine lv_lload C0.1 C0.2.1 dL_law_1070 (lv_at hl 23 rfl) ?_
  refine lv_lload C0.1 C0.2.1 dL_law_1072 (lv_at hl 24 rfl) ?_
  refine c_S C0 hO hS (mL_common 90 h) tb_852 tb_853 tb_26 tb_854 hd_L_common rfl ⟨⟨by decide, by decide⟩, by show _ + 0 ≤ 668972; omega, by show _ + 0 ≤ 7086985; omega⟩ hl.1 rfl (Nat.le_of_ble_eq_true rfl) dL_law_1074 (kJ (fun r2 S1 H locs h hO hS => ?_))
  change W _ _ _ _ _ _ _ _ _ _ _ _ (_ + 0) (_ + 0) _ _
  refine lv_lstore C0.1 C0.2.1 dL_law_1077 hl (by decide) rfl (fun ls hl => ?_)
  refine lv_aload C0.1 C0.2.1 dL_law_1079 (lv_at hl 21 rfl) ?_
  refine lv_aload C0.1 C0.2.1 dL_law_1081 (lv_at hl 8 rfl) ?_
  refine lv_iload C0.1 C0.2.1 dL_law_1083 (lv_at hl 23 rfl) ?_
  obtain ⟨i3, h⟩ := h
  obtain ⟨e4, h⟩ := h
  refine r_iald C0 hO i3 e4 dL_law_1085 ?_
  refine lv_lload C0.1 C0.2.1 dL_law_1086 (lv_at hl 24 rfl) ?_
  refine lv_lload C0.1 C0.2.1 dL_law_1088 (lv_at hl 0 rfl) ?_
  obtain ⟨e5, h⟩ := h
  refine lv_ldiv C0.1 C0.2.1 dL_law_1090 e5 ?_
  obtain ⟨i6, h⟩ := h
  obtain ⟨e7, h⟩ := h
  refine r_last C0 hO hS i6 e7 dL_law_1091 (fun H locs hO hS => ?_)
  replace h := h _ rfl
  refine lv_aload C0.1 C0.2.1 dL_law_1092 (lv_at hl 22 rfl) ?_
  refine lv_aload C0.1 C0.2.1 dL_law_1094 (lv_at hl 8 rfl) ?_
  refine lv_iload C0.1 C0.2.1 dL_law_1096 (lv_at hl 23 rfl) ?_
  obtain ⟨e9, h⟩ := h
  refine r_iald C0 hO (sA_AJ i3) e9 dL_law_1098 ?_
  refine lv_lload C0.1 C0.2.1 dL_law_1099 (lv_at hl 25 rfl) ?_
  refine lv_lload C0.1 C0.2.1 dL_law_1101 (lv_at hl 0 rfl) ?_
  obtain ⟨e10, h⟩ := h
  refine lv_ldiv C0.1 C0.2.1 dL_law_1103 e10 ?_
  obtain ⟨i11, h⟩ := h
  obtain ⟨e12, h⟩ := h
  refine r_last C0 hO hS i11 e12 dL_law_1104 (fun H locs hO hS => ?_)
  replace h := h _ rfl
  refine lv_iinc (v := _ + 1) C0.1 C0.2.1 dL_law_1105 hl (k := 23) rfl rfl (by decide) rfl (fun ls hl => ?_)
  refine lv_goto (tgt := 806) C0.1 C0.2.1 dL_law_1108 (by decide) ?_
  exact hk806 _ _ _ _ _ _ _ _ _ _ _ _ _ _ _ _ _ _ _ _ _ _ _ _ _ _ _ _ h hO hS (lv_sub hl [2, 3, 4, 5, 6, 7, 8, 9, 10, 11, 12, 13, 14, 15, 16, 17, 18, 19, 20, 21, 22, 23, 0] rfl) (by clear h; omega) (by clear h; omega)
def wL_law_b1069 (x0 : (Nat → Int32)) (L9 : Nat) (k670 : Hp → Nat → Int32 → Nat → Nat → Nat → Nat → Nat → Nat → Nat → Nat → Nat → Nat → Int32 → Prop) (k747 : Hp → Nat → Int32 → Nat → Nat → Nat → Nat → Nat → Nat → Nat → Nat → Nat → Nat → Int32 → Int32 → Int32 → Int32 → Nat → Nat → Int32 → Prop) (k806 : Hp → Nat → Int32 → Nat → Nat → Nat → Nat → Nat → Nat → Nat → Nat → Nat → Nat → Int32 → Int32 → Int32 → Int32 → Nat → Nat → Int32 → Nat → Nat → Int32 → Prop) (S : Hp) (v1 : Nat) (v2 : Int32) (v3 : Nat) (v4 : Nat) (v5 : Nat) (v6 : Nat) (v7 : Nat) (v8 : Nat) (v9 : Nat) (v10 : Nat) (v11 : Nat) (v12 : Nat) (v13 : Int32) (v14 : Int32) (v15 : Int32) (v16 : Int32) (v17 : Nat) (v18 : Nat) (v19 : Int32) (v20 : Nat) (v21 : Nat) (v22 : Int32) (v30 : Int64) (v32 : Int64) (z0 : Nat) (z1 : Int32) (z2 : Int64) : Prop := isA S z0 22 ∧ vp_in z1 (S.N z0) ∧ ∀ S3, S3 = S.setAJ z0 z1.toNatClampNeg z2 → wL_law_b1070 x0 L9 k670 k747 k806 S3 v1 v2 v3 v4 v5 v6 v7 v8 v9 v10 v11 v12 v13 v14 v15 v16 v17 v18 v19 v20 v21 v22 v30 v32
set_option maxHeartbeats 4000000 in
set_option maxRecDepth 100000 in
theorem bL_law_b1069 {p : Program} {l : Launch} {e : Env} {s : State} {m : MethodId} {args : Array Value} {below : List Frame} {meth : Method} {c : Code} {G : Gw} {Q : State → Prop}  (C0 : Mx p s m c code 37 args yL_law.cls G) (Y : My meth (some .boolean)) (hl9 : l.stackTraces = false) (hend9 : ∀ (pc : Nat) (H : Heap) (locs : List Loc) (ls : Array Slot) (cells slots : Nat), decode code pc = .ok (.ireturn, 1) → va_S (Ab G.b) s.heap H locs → cells ≤ 668972 → slots ≤ 7086985 → W p l e room_1 s m args below meth c H locs cells slots Q (F0 m pc ls [.int 1])) {n9_670 : Nat} {n9_747 : Nat} {k670 : Hp → Nat → Int32 → Nat → Nat → Nat → Nat → Nat → Nat → Nat → Nat → Nat → Nat → Int32 → Prop} (hk670 : ∀ (S : Hp) (v1 : Nat) (v2 : Int32) (v3 : Nat) (v4 : Nat) (v5 : Nat) (v6 : Nat) (v7 : Nat) (v8 : Nat) (v9 : Nat) (v10 : Nat) (v11 : Nat) (v12 : Nat) (v13 : Int32) (H : Heap) (locs : List Loc) (ls : Array Slot) (cells slots : Nat), k670 S v1 v2 v3 v4 v5 v6 v7 v8 v9 v10 v11 v12 v13 → Ok G S H → va_S (Ab G.b) s.heap H locs → lv_has ls 37 [(0, .ref G.xb), (1, .ref v1), (2, .int v2), (3, .ref v3), (4, .ref v4), (5, .ref v5), (6, .ref v6), (7, .ref v7), (8, .ref v8), (9, .ref v9), (10, .ref v10), (11, .ref v11), (12, .ref v12), (13, .int v13)] → cells + (n9_670 * 127 + 3) ≤ 668972 → slots + (n9_670 * 662 + 18) ≤ 7086985 → W p l e room_1 s m args below meth c H locs cells slots Q (F0 m 670 ls [])) {k747 : Hp → Nat → Int32 → Nat → Nat → Nat → Nat → Nat → Nat → Nat → Nat → Nat → Nat → Int32 → Int32 → Int32 → Int32 → Nat → Nat → Int32 → Prop} (hk747 : ∀ (S : Hp) (v1 : Nat) (v2 : Int32) (v3 : Nat) (v4 : Nat) (v5 : Nat) (v6 : Nat) (v7 : Nat) (v8 : Nat) (v9 : Nat) (v10 : Nat) (v11 : Nat) (v12 : Nat) (v13 : Int32) (v14 : Int32) (v15 : Int32) (v16 : Int32) (v17 : Nat) (v18 : Nat) (v19 : Int32) (H : Heap) (locs : List Loc) (ls : Array Slot) (cells slots : Nat), k747 S v1 v2 v3 v4 v5 v6 v7 v8 v9 v10 v11 v12 v13 v14 v15 v16 v17 v18 v19 → Ok G S H → va_S (Ab G.b) s.heap H locs → lv_has ls 37 [(0, .ref G.xb), (1, .ref v1), (2, .int v2), (3, .ref v3), (4, .ref v4), (5, .ref v5), (6, .ref v6), (7, .ref v7), (8, .ref v8), (9, .ref v9), (10, .ref v10), (11, .ref v11), (12, .ref v12), (13, .int v13), (14, .int v14), (15, .int v15), (16, .int v16), (17, .ref v17), (18, .ref v18), (19, .int v19)] → cells + (n9_670 * 127 + n9_747 * 2 + 30) ≤ 668972 → slots + (n9_670 * 662 + n9_747 * 10 + 180) ≤ 7086985 → W p l e room_1 s m args below meth c H locs cells slots Q (F0 m 747 ls [])) {k806 : Hp → Nat → Int32 → Nat → Nat → Nat → Nat → Nat → Nat → Nat → Nat → Nat → Nat → Int32 → Int32 → Int32 → Int32 → Nat → Nat → Int32 → Nat → Nat → Int32 → Prop} (hk806 : ∀ (S : Hp) (v1 : Nat) (v2 : Int32) (v3 : Nat) (v4 : Nat) (v5 : Nat) (v6 : Nat) (v7 : Nat) (v8 : Nat) (v9 : Nat) (v10 : Nat) (v11 : Nat) (v12 : Nat) (v13 : Int32) (v14 : Int32) (v15 : Int32) (v16 : Int32) (v17 : Nat) (v18 : Nat) (v19 : Int32) (v20 : Nat) (v21 : Nat) (v22 : Int32) (H : Heap) (locs : List Loc) (ls : Array Slot) (cells slots : Nat), k806 S v1 v2 v3 v4 v5 v6 v7 v8 v9 v10 v11 v12 v13 v14 v15 v16 v17 v18 v19 v20 v21 v22 → Ok G S H → va_S (Ab G.b) s.heap H locs → lv_has ls 37 [(0, .ref G.xb), (1, .ref v1), (2, .int v2), (3, .ref v3), (4, .ref v4), (5, .ref v5), (6, .ref v6), (7, .ref v7), (8, .ref v8), (9, .ref v9), (10, .ref v10), (11, .ref v11), (12, .ref v12), (13, .int v13), (14, .int v14), (15, .int v15), (16, .int v16), (17, .ref v17), (18, .ref v18), (19, .int v19), (20, .ref v20), (21, .ref v21), (22, .int v22)] → cells + (n9_670 * 127 + n9_747 * 2 + 30) ≤ 668972 → slots + (n9_670 * 662 + n9_747 * 10 + 180) ≤ 7086985 → W p l e room_1 s m args below meth c H locs cells slots Q (F0 m 806 ls [])) : ∀ (S : Hp) (v1 : Nat) (v2 : Int32) (v3 : Nat) (v4 : Nat) (v5 : Nat) (v6 : Nat) (v7 : Nat) (v8 : Nat) (v9 : Nat) (v10 : Nat) (v11 : Nat) (v12 : Nat) (v13 : Int32) (v14 : Int32) (v15 : Int32) (v16 : Int32) (v17 : Nat) (v18 : Nat) (v19 : Int32) (v20 : Nat) (v21 : Nat) (v22 : Int32) (v30 : Int64) (v32 : Int64) (z0 : Nat) (z1 : Int32) (z2 : Int64) (H : Heap) (locs : List Loc) (ls : Array Slot) (cells slots : Nat), wL_law_b1069 G.xs G.xl k670 k747 k806 S v1 v2 v3 v4 v5 v6 v7 v8 v9 v10 v11 v12 v13 v14 v15 v16 v17 v18 v19 v20 v21 v22 v30 v32 z0 z1 z2 → Ok G S H → va_S (Ab G.b) s.heap H locs → lv_has ls 37 [(0, .ref G.xb), (1, .ref v1), (2, .int v2), (3, .ref v3), (4, .ref v4), (5, .ref v5), (6, .ref v6), (7, .ref v7), (8, .ref v8), (9, .ref v9), (10, .ref v10), (11, .ref v11), (12, .ref v12), (13, .int v13), (14, .int v14), (15, .int v15), (16, .int v16), (17, .ref v17), (18, .ref v18), (19, .int v19), (20, .ref v20), (21, .ref v21), (22, .int v22), (30, .long v30), (32, .long v32)] → cells + (n9_670 * 127 + n9_747 * 2 + 30) ≤ 668972 → slots + (n9_670 * 662 + n9_747 * 10 + 180) ≤ 7086985 → W p l e room_1 s m args below meth c H locs cells slots Q (F0 m 1069 ls [.long z2, .int z1, .ref z0]) := by
  intro S v1 v2 v3 v4 v5 v6 v7 v8 v9 v10 v11 v12 v13 v14 v15 v16 v17 v18 v19 v20 v21 v22 v30 v32 z0 z1 z2 H locs ls cells slots h hO hS hl hcc hss
  unfold wL_law_b1069 at h
  obtain ⟨i1, h⟩ := h
  obtain ⟨e2, h⟩ := h
  refine r_last C0 hO hS i1 e2 dL_law_1069 (fun H locs hO hS => ?_)
  replace h := h _ rfl
  exact bL_law_b1070 C0 Y hl9 hend9 hk670 hk747 hk806 _ _ _ _ _ _ _ _ _ _ _ _ _ _ _ _ _ _ _ _ _ _ _ _ _ _ _ _ _ _ h hO hS (lv_sub hl [0, 1, 2, 3, 4, 5, 6, 7, 8, 9, 10, 11, 12, 13, 14, 15, 16, 17, 18, 19, 20, 21, 22, 23, 24] rfl) (by clear h; omega) (by clear h; omega)
def wL_law_b1038 (x0 : (Nat → Int32)) (L9 : Nat) (k670 : Hp → Nat → Int32 → Nat → Nat → Nat → Nat → Nat → Nat → Nat → Nat → Nat → Nat → Int32 → Prop) (k747 : Hp → Nat → Int32 → Nat → Nat → Nat → Nat → Nat → Nat → Nat → Nat → Nat → Nat → Int32 → Int32 → Int32 → Int32 → Nat → Nat → Int32 → Prop) (k806 : Hp → Nat → Int32 → Nat → Nat → Nat → Nat → Nat → Nat → Nat → Nat → Nat → Nat → Int32 → Int32 → Int32 → Int32 → Nat → Nat → Int32 → Nat → Nat → Int32 → Prop) (S : Hp) (v1 : Nat) (v2 : Int32) (v3 : Nat) (v4 : Nat) (v5 : Nat) (v6 : Nat) (v7 : Nat) (v8 : Nat) (v9 : Nat) (v10 : Nat) (v11 : Nat) (v12 : Nat) (v13 : Int32) (v14 : Int32) (v15 : Int32) (v16 : Int32) (v17 : Nat) (v18 : Nat) (v19 : Int32) (v20 : Nat) (v21 : Nat) (v22 : Int32) (v28 : Int64) (v34 : Int64) (z0 : Int64) : Prop := isA S v12 22 ∧ vp_in v22 (S.N v12) ∧ (((lg_cmp v34 (S.AJ v12 v22.toNatClampNeg)) ≤ 0 → vp_in v22 (S.N v12) ∧ wL_law_b1069 x0 L9 k670 k747 k806 S v1 v2 v3 v4 v5 v6 v7 v8 v9 v10 v11 v12 v13 v14 v15 v16 v17 v18 v19 v20 v21 v22 z0 v28 v12 v22 (S.AJ v12 v22.toNatClampNeg)) ∧ (¬ ((lg_cmp v34 (S.AJ v12 v22.toNatClampNeg)) ≤ 0) → wL_law_b1069 x0 L9 k670 k747 k806 S v1 v2 v3 v4 v5 v6 v7 v8 v9 v10 v11 v12 v13 v14 v15 v16 v17 v18 v19 v20 v21 v22 z0 v28 v12 v22 v34))
set_option maxHeartbeats 4000000 in
set_option maxRecDepth 100000 in
theorem bL_law_b1038 {p : Program} {l : Launch} {e : Env} {s : State} {m : MethodId} {args : Array Value} {below : List Frame} {meth : Method} {c : Code} {G : Gw} {Q : State → Prop}  (C0 : Mx p s m c code 37 args yL_law.cls G) (Y : My meth (some .boolean)) (hl9 : l.stackTraces = false) (hend9 : ∀ (pc : Nat) (H : Heap) (locs : List Loc) (ls : Array Slot) (cells slots : Nat), decode code pc = .ok (.ireturn, 1) → va_S (Ab G.b) s.heap H locs → cells ≤ 668972 → slots ≤ 7086985 → W p l e room_1 s m args below meth c H locs cells slots Q (F0 m pc ls [.int 1])) {n9_670 : Nat} {n9_747 : Nat} {k670 : Hp → Nat → Int32 → Nat → Nat → Nat → Nat → Nat → Nat → Nat → Nat → Nat → Nat → Int32 → Prop} (hk670 : ∀ (S : Hp) (v1 : Nat) (v2 : Int32) (v3 : Nat) (v4 : Nat) (v5 : Nat) (v6 : Nat) (v7 : Nat) (v8 : Nat) (v9 : Nat) (v10 : Nat) (v11 : Nat) (v12 : Nat) (v13 : Int32) (H : Heap) (locs : List Loc) (ls : Array Slot) (cells slots : Nat), k670 S v1 v2 v3 v4 v5 v6 v7 v8 v9 v10 v11 v12 v13 → Ok G S H → va_S (Ab G.b) s.heap H locs → lv_has ls 37 [(0, .ref G.xb), (1, .ref v1), (2, .int v2), (3, .ref v3), (4, .ref v4), (5, .ref v5), (6, .ref v6), (7, .ref v7), (8, .ref v8), (9, .ref v9), (10, .ref v10), (11, .ref v11), (12, .ref v12), (13, .int v13)] → cells + (n9_670 * 127 + 3) ≤ 668972 → slots + (n9_670 * 662 + 18) ≤ 7086985 → W p l e room_1 s m args below meth c H locs cells slots Q (F0 m 670 ls [])) {k747 : Hp → Nat → Int32 → Nat → Nat → Nat → Nat → Nat → Nat → Nat → Nat → Nat → Nat → Int32 → Int32 → Int32 → Int32 → Nat → Nat → Int32 → Prop} (hk747 : ∀ (S : Hp) (v1 : Nat) (v2 : Int32) (v3 : Nat) (v4 : Nat) (v5 : Nat) (v6 : Nat) (v7 : Nat) (v8 : Nat) (v9 : Nat) (v10 : Nat) (v11 : Nat) (v12 : Nat) (v13 : Int32) (v14 : Int32) (v15 : Int32) (v16 : Int32) (v17 : Nat) (v18 : Nat) (v19 : Int32) (H : Heap) (locs : List Loc) (ls : Array Slot) (cells slots : Nat), k747 S v1 v2 v3 v4 v5 v6 v7 v8 v9 v10 v11 v12 v13 v14 v15 v16 v17 v18 v19 → Ok G S H → va_S (Ab G.b) s.heap H locs → lv_has ls 37 [(0, .ref G.xb), (1, .ref v1), (2, .int v2), (3, .ref v3), (4, .ref v4), (5, .ref v5), (6, .ref v6), (7, .ref v7), (8, .ref v8), (9, .ref v9), (10, .ref v10), (11, .ref v11), (12, .ref v12), (13, .int v13), (14, .int v14), (15, .int v15), (16, .int v16), (17, .ref v17), (18, .ref v18), (19, .int v19)] → cells + (n9_670 * 127 + n9_747 * 2 + 30) ≤ 668972 → slots + (n9_670 * 662 + n9_747 * 10 + 180) ≤ 7086985 → W p l e room_1 s m args below meth c H locs cells slots Q (F0 m 747 ls [])) {k806 : Hp → Nat → Int32 → Nat → Nat → Nat → Nat → Nat → Nat → Nat → Nat → Nat → Nat → Int32 → Int32 → Int32 → Int32 → Nat → Nat → Int32 → Nat → Nat → Int32 → Prop} (hk806 : ∀ (S : Hp) (v1 : Nat) (v2 : Int32) (v3 : Nat) (v4 : Nat) (v5 : Nat) (v6 : Nat) (v7 : Nat) (v8 : Nat) (v9 : Nat) (v10 : Nat) (v11 : Nat) (v12 : Nat) (v13 : Int32) (v14 : Int32) (v15 : Int32) (v16 : Int32) (v17 : Nat) (v18 : Nat) (v19 : Int32) (v20 : Nat) (v21 : Nat) (v22 : Int32) (H : Heap) (locs : List Loc) (ls : Array Slot) (cells slots : Nat), k806 S v1 v2 v3 v4 v5 v6 v7 v8 v9 v10 v11 v12 v13 v14 v15 v16 v17 v18 v19 v20 v21 v22 → Ok G S H → va_S (Ab G.b) s.heap H locs → lv_has ls 37 [(0, .ref G.xb), (1, .ref v1), (2, .int v2), (3, .ref v3), (4, .ref v4), (5, .ref v5), (6, .ref v6), (7, .ref v7), (8, .ref v8), (9, .ref v9), (10, .ref v10), (11, .ref v11), (12, .ref v12), (13, .int v13), (14, .int v14), (15, .int v15), (16, .int v16), (17, .ref v17), (18, .ref v18), (19, .int v19), (20, .ref v20), (21, .ref v21), (22, .int v22)] → cells + (n9_670 * 127 + n9_747 * 2 + 30) ≤ 668972 → slots + (n9_670 * 662 + n9_747 * 10 + 180) ≤ 7086985 → W p l e room_1 s m args below meth c H locs cells slots Q (F0 m 806 ls [])) : ∀ (S : Hp) (v1 : Nat) (v2 : Int32) (v3 : Nat) (v4 : Nat) (v5 : Nat) (v6 : Nat) (v7 : Nat) (v8 : Nat) (v9 : Nat) (v10 : Nat) (v11 : Nat) (v12 : Nat) (v13 : Int32) (v14 : Int32) (v15 : Int32) (v16 : Int32) (v17 : Nat) (v18 : Nat) (v19 : Int32) (v20 : Nat) (v21 : Nat) (v22 : Int32) (v28 : Int64) (v34 : Int64) (z0 : Int64) (H : Heap) (locs : List Loc) (ls : Array Slot) (cells slots : Nat), wL_law_b1038 G.xs G.xl k670 k747 k806 S v1 v2 v3 v4 v5 v6 v7 v8 v9 v10 v11 v12 v13 v14 v15 v16 v17 v18 v19 v20 v21 v22 v28 v34 z0 → Ok G S H → va_S (Ab G.b) s.heap H locs → lv_has ls 37 [(0, .ref G.xb), (1, .ref v1), (2, .int v2), (3, .ref v3), (4, .ref v4), (5, .ref v5), (6, .ref v6), (7, .ref v7), (8, .ref v8), (9, .ref v9), (10, .ref v10), (11, .ref v11), (12, .ref v12), (13, .int v13), (14, .int v14), (15, .int v15), (16, .int v16), (17, .ref v17), (18, .ref v18), (19, .int v19), (20, .ref v20), (21, .ref v21), (22, .int v22), (28, .long v28), (34, .long v34)] → cells + (n9_670 * 127 + n9_747 * 2 + 30) ≤ 668972 → slots + (n9_670 * 662 + n9_747 * 10 + 180) ≤ 7086985 → W p l e room_1 s m args below meth c H locs cells slots Q (F0 m 1038 ls [.long z0]) := by
  intro S v1 v2 v3 v4 v5 v6 v7 v8 v9 v10 v11 v12 v13 v14 v15 v16 v17 v18 v19 v20 v21 v22 v28 v34 z0 H locs ls cells slots h hO hS hl hcc hss
  unfold wL_law_b1038 at h
  refine lv_lstore C0.1 C0.2.1 dL_law_1038 hl (by decide) rfl (fun ls hl => ?_)
  refine lv_lload C0.1 C0.2.1 dL_law_1040 (lv_at hl 24 rfl) ?_
  refine lv_lstore C0.1 C0.2.1 dL_law_1042 hl (by decide) rfl (fun ls hl => ?_)
  refine lv_aload C0.1 C0.2.1 dL_law_1044 (lv_at hl 14 rfl) ?_
  refine lv_iload C0.1 C0.2.1 dL_law_1046 (lv_at hl 24 rfl) ?_
  refine lv_lload C0.1 C0.2.1 dL_law_1048 (lv_at hl 26 rfl) ?_
  refine lv_aload C0.1 C0.2.1 dL_law_1050 (lv_at hl 14 rfl) ?_
  refine lv_iload C0.1 C0.2.1 dL_law_1052 (lv_at hl 24 rfl) ?_
  obtain ⟨i1, h⟩ := h
  obtain ⟨e2, h⟩ := h
  refine r_lald C0 hO i1 e2 dL_law_1054 ?_
  refine W.lcmp C0.1 C0.2.1 dL_law_1055 ?_
  refine lv_if_le (tgt := 1064) C0.1 C0.2.1 dL_law_1056 (by decide) (fun c3 => ?_) (fun c3 => ?_)
  · replace h := h.1 c3
    refine lv_aload C0.1 C0.2.1 dL_law_1064 (lv_at hl 14 rfl) ?_
    refine lv_iload C0.1 C0.2.1 dL_law_1066 (lv_at hl 24 rfl) ?_
    obtain ⟨e4, h⟩ := h
    refine r_lald C0 hO i1 e4 dL_law_1068 ?_
    exact bL_law_b1069 C0 Y hl9 hend9 hk670 hk747 hk806 _ _ _ _ _ _ _ _ _ _ _ _ _ _ _ _ _ _ _ _ _ _ _ _ _ _ _ _ _ _ _ _ _ h hO hS (lv_sub hl [2, 3, 4, 5, 6, 7, 8, 9, 10, 11, 12, 13, 14, 15, 16, 17, 18, 19, 20, 21, 22, 23, 24, 1, 0] rfl) (by clear h; omega) (by clear h; omega)
  · replace h := h.2 c3
    refine lv_lload C0.1 C0.2.1 dL_law_1059 (lv_at hl 26 rfl) ?_
    refine lv_goto (tgt := 1069) C0.1 C0.2.1 dL_law_1061 (by decide) ?_
    exact bL_law_b1069 C0 Y hl9 hend9 hk670 hk747 hk806 _ _ _ _ _ _ _ _ _ _ _ _ _ _ _ _ _ _ _ _ _ _ _ _ _ _ _ _ _ _ _ _ _ h hO hS (lv_sub hl [2, 3, 4, 5, 6, 7, 8, 9, 10, 11, 12, 13, 14, 15, 16, 17, 18, 19, 20, 21, 22, 23, 24, 1, 0] rfl) (by clear h; omega) (by clear h; omega)
def wL_law_b994 (x0 : (Nat → Int32)) (L9 : Nat) (k670 : Hp → Nat → Int32 → Nat → Nat → Nat → Nat → Nat → Nat → Nat → Nat → Nat → Nat → Int32 → Prop) (k747 : Hp → Nat → Int32 → Nat → Nat → Nat → Nat → Nat → Nat → Nat → Nat → Nat → Nat → Int32 → Int32 → Int32 → Int32 → Nat → Nat → Int32 → Prop) (k806 : Hp → Nat → Int32 → Nat → Nat → Nat → Nat → Nat → Nat → Nat → Nat → Nat → Nat → Int32 → Int32 → Int32 → Int32 → Nat → Nat → Int32 → Nat → Nat → Int32 → Prop) (S : Hp) (v1 : Nat) (v2 : Int32) (v3 : Nat) (v4 : Nat) (v5 : Nat) (v6 : Nat) (v7 : Nat) (v8 : Nat) (v9 : Nat) (v10 : Nat) (v11 : Nat) (v12 : Nat) (v13 : Int32) (v14 : Int32) (v15 : Int32) (v16 : Int32) (v17 : Nat) (v18 : Nat) (v19 : Int32) (v20 : Nat) (v21 : Nat) (v22 : Int32) (v24 : Int64) (v26 : Int64) (v28 : Int64) (v30 : Int64) (v32 : Int64) : Prop := isA S v3 20 ∧ vp_in v22 (S.N v3) ∧ ((¬ (S.AI v3 v22.toNatClampNeg) = 114 → wL_law_b1070 x0 L9 k670 k747 k806 S v1 v2 v3 v4 v5 v6 v7 v8 v9 v10 v11 v12 v13 v14 v15 v16 v17 v18 v19 v20 v21 v22 v30 v32) ∧ ((S.AI v3 v22.toNatClampNeg) = 114 → wJ9_floorDiv_f86c9 S (v28 * v24) v26 (fun S4 r5 => isA S4 v12 22 ∧ vp_in v22 (S4.N v12) ∧ (((lg_cmp r5 (S4.AJ v12 v22.toNatClampNeg)) ≤ 0 → wL_law_b1038 x0 L9 k670 k747 k806 S4 v1 v2 v3 v4 v5 v6 v7 v8 v9 v10 v11 v12 v13 v14 v15 v16 v17 v18 v19 v20 v21 v22 v28 r5 0) ∧ (¬ ((lg_cmp r5 (S4.AJ v12 v22.toNatClampNeg)) ≤ 0) → vp_in v22 (S4.N v12) ∧ wL_law_b1038 x0 L9 k670 k747 k806 S4 v1 v2 v3 v4 v5 v6 v7 v8 v9 v10 v11 v12 v13 v14 v15 v16 v17 v18 v19 v20 v21 v22 v28 r5 (r5 - (S4.AJ v12 v22.toNatClampNeg)))))))
set_option maxHeartbeats 4000000 in
set_option maxRecDepth 100000 in
theorem bL_law_b994 {p : Program} {l : Launch} {e : Env} {s : State} {m : MethodId} {args : Array Value} {below : List Frame} {meth : Method} {c : Code} {G : Gw} {Q : State → Prop}  (C0 : Mx p s m c code 37 args yL_law.cls G) (Y : My meth (some .boolean)) (hl9 : l.stackTraces = false) (hend9 : ∀ (pc : Nat) (H : Heap) (locs : List Loc) (ls : Array Slot) (cells slots : Nat), decode code pc = .ok (.ireturn, 1) → va_S (Ab G.b) s.heap H locs → cells ≤ 668972 → slots ≤ 7086985 → W p l e room_1 s m args below meth c H locs cells slots Q (F0 m pc ls [.int 1])) {n9_670 : Nat} {n9_747 : Nat} {k670 : Hp → Nat → Int32 → Nat → Nat → Nat → Nat → Nat → Nat → Nat → Nat → Nat → Nat → Int32 → Prop} (hk670 : ∀ (S : Hp) (v1 : Nat) (v2 : Int32) (v3 : Nat) (v4 : Nat) (v5 : Nat) (v6 : Nat) (v7 : Nat) (v8 : Nat) (v9 : Nat) (v10 : Nat) (v11 : Nat) (v12 : Nat) (v13 : Int32) (H : Heap) (locs : List Loc) (ls : Array Slot) (cells slots : Nat), k670 S v1 v2 v3 v4 v5 v6 v7 v8 v9 v10 v11 v12 v13 → Ok G S H → va_S (Ab G.b) s.heap H locs → lv_has ls 37 [(0, .ref G.xb), (1, .ref v1), (2, .int v2), (3, .ref v3), (4, .ref v4), (5, .ref v5), (6, .ref v6), (7, .ref v7), (8, .ref v8), (9, .ref v9), (10, .ref v10), (11, .ref v11), (12, .ref v12), (13, .int v13)] → cells + (n9_670 * 127 + 3) ≤ 668972 → slots + (n9_670 * 662 + 18) ≤ 7086985 → W p l e room_1 s m args below meth c H locs cells slots Q (F0 m 670 ls [])) {k747 : Hp → Nat → Int32 → Nat → Nat → Nat → Nat → Nat → Nat → Nat → Nat → Nat → Nat → Int32 → Int32 → Int32 → Int32 → Nat → Nat → Int32 → Prop} (hk747 : ∀ (S : Hp) (v1 : Nat) (v2 : Int32) (v3 : Nat) (v4 : Nat) (v5 : Nat) (v6 : Nat) (v7 : Nat) (v8 : Nat) (v9 : Nat) (v10 : Nat) (v11 : Nat) (v12 : Nat) (v13 : Int32) (v14 : Int32) (v15 : Int32) (v16 : Int32) (v17 : Nat) (v18 : Nat) (v19 : Int32) (H : Heap) (locs : List Loc) (ls : Array Slot) (cells slots : Nat), k747 S v1 v2 v3 v4 v5 v6 v7 v8 v9 v10 v11 v12 v13 v14 v15 v16 v17 v18 v19 → Ok G S H → va_S (Ab G.b) s.heap H locs → lv_has ls 37 [(0, .ref G.xb), (1, .ref v1), (2, .int v2), (3, .ref v3), (4, .ref v4), (5, .ref v5), (6, .ref v6), (7, .ref v7), (8, .ref v8), (9, .ref v9), (10, .ref v10), (11, .ref v11), (12, .ref v12), (13, .int v13), (14, .int v14), (15, .int v15), (16, .int v16), (17, .ref v17), (18, .ref v18), (19, .int v19)] → cells + (n9_670 * 127 + n9_747 * 2 + 30) ≤ 668972 → slots + (n9_670 * 662 + n9_747 * 10 + 180) ≤ 7086985 → W p l e room_1 s m args below meth c H locs cells slots Q (F0 m 747 ls [])) {k806 : Hp → Nat → Int32 → Nat → Nat → Nat → Nat → Nat → Nat → Nat → Nat → Nat → Nat → Int32 → Int32 → Int32 → Int32 → Nat → Nat → Int32 → Nat → Nat → Int32 → Prop} (hk806 : ∀ (S : Hp) (v1 : Nat) (v2 : Int32) (v3 : Nat) (v4 : Nat) (v5 : Nat) (v6 : Nat) (v7 : Nat) (v8 : Nat) (v9 : Nat) (v10 : Nat) (v11 : Nat) (v12 : Nat) (v13 : Int32) (v14 : Int32) (v15 : Int32) (v16 : Int32) (v17 : Nat) (v18 : Nat) (v19 : Int32) (v20 : Nat) (v21 : Nat) (v22 : Int32) (H : Heap) (locs : List Loc) (ls : Array Slot) (cells slots : Nat), k806 S v1 v2 v3 v4 v5 v6 v7 v8 v9 v10 v11 v12 v13 v14 v15 v16 v17 v18 v19 v20 v21 v22 → Ok G S H → va_S (Ab G.b) s.heap H locs → lv_has ls 37 [(0, .ref G.xb), (1, .ref v1), (2, .int v2), (3, .ref v3), (4, .ref v4), (5, .ref v5), (6, .ref v6), (7, .ref v7), (8, .ref v8), (9, .ref v9), (10, .ref v10), (11, .ref v11), (12, .ref v12), (13, .int v13), (14, .int v14), (15, .int v15), (16, .int v16), (17, .ref v17), (18, .ref v18), (19, .int v19), (20, .ref v20), (21, .ref v21), (22, .int v22)] → cells + (n9_670 * 127 + n9_747 * 2 + 30) ≤ 668972 → slots + (n9_670 * 662 + n9_747 * 10 + 180) ≤ 7086985 → W p l e room_1 s m args below meth c H locs cells slots Q (F0 m 806 ls [])) : ∀ (S : Hp) (v1 : Nat) (v2 : Int32) (v3 : Nat) (v4 : Nat) (v5 : Nat) (v6 : Nat) (v7 : Nat) (v8 : Nat) (v9 : Nat) (v10 : Nat) (v11 : Nat) (v12 : Nat) (v13 : Int32) (v14 : Int32) (v15 : Int32) (v16 : Int32) (v17 : Nat) (v18 : Nat) (v19 : Int32) (v20 : Nat) (v21 : Nat) (v22 : Int32) (v24 : Int64) (v26 : Int64) (v28 : Int64) (v30 : Int64) (v32 : Int64) (H : Heap) (locs : List Loc) (ls : Array Slot) (cells slots : Nat), wL_law_b994 G.xs G.xl k670 k747 k806 S v1 v2 v3 v4 v5 v6 v7 v8 v9 v10 v11 v12 v13 v14 v15 v16 v17 v18 v19 v20 v21 v22 v24 v26 v28 v30 v32 → Ok G S H → va_S (Ab G.b) s.heap H locs → lv_has ls 37 [(0, .ref G.xb), (1, .ref v1), (2, .int v2), (3, .ref v3), (4, .ref v4), (5, .ref v5), (6, .ref v6), (7, .ref v7), (8, .ref v8), (9, .ref v9), (10, .ref v10), (11, .ref v11), (12, .ref v12), (13, .int v13), (14, .int v14), (15, .int v15), (16, .int v16), (17, .ref v17), (18, .ref v18), (19, .int v19), (20, .ref v20), (21, .ref v21), (22, .int v22), (24, .long v24), (26, .long v26), (28, .long v28), (30, .long v30), (32, .long v32)] → cells + (n9_670 * 127 + n9_747 * 2 + 30) ≤ 668972 → slots + (n9_670 * 662 + n9_747 * 10 + 180) ≤ 7086985 → W p l e room_1 s m args below meth c H locs cells slots Q (F0 m 994 ls []) := by
  intro S v1 v2 v3 v4 v5 v6 v7 v8 v9 v10 v11 v12 v13 v14 v15 v16 v17 v18 v19 v20 v21 v22 v24 v26 v28 v30 v32 H locs ls cells slots h hO hS hl hcc hss
  unfold wL_law_b994 at h
  refine lv_aload_n C0.1 C0.2.1 dL_law_994 rfl (lv_at hl 3 rfl) ?_
  refine lv_iload C0.1 C0.2.1 dL_law_995 (lv_at hl 22 rfl) ?_
  obtain ⟨i1, h⟩ := h
  obtain ⟨e2, h⟩ := h
  refine r_cald C0 hO i1 e2 dL_law_997 ?_
  refine lv_bipush (v := 114) C0.1 C0.2.1 dL_law_998 (by decide) ?_
  refine lv_icmp_ne (tgt := 1070) C0.1 C0.2.1 dL_law_1000 (by decide) (fun c3 => ?_) (fun c3 => ?_)
  · replace h := h.1 c3
    exact bL_law_b1070 C0 Y hl9 hend9 hk670 hk747 hk806 _ _ _ _ _ _ _ _ _ _ _ _ _ _ _ _ _ _ _ _ _ _ _ _ _ _ _ _ _ _ h hO hS (lv_sub hl [0, 1, 2, 3, 4, 5, 6, 7, 8, 9, 10, 11, 12, 13, 14, 15, 16, 17, 18, 19, 20, 21, 22, 26, 27] rfl) (by clear h; omega) (by clear h; omega)
  · replace h := h.2 c3
    refine lv_lload C0.1 C0.2.1 dL_law_1003 (lv_at hl 25 rfl) ?_
    refine lv_lload C0.1 C0.2.1 dL_law_1005 (lv_at hl 23 rfl) ?_
    refine lv_lmul C0.1 C0.2.1 dL_law_1007 ?_
    refine lv_lload C0.1 C0.2.1 dL_law_1008 (lv_at hl 24 rfl) ?_
    refine c_S C0 hO hS (mJ9_floorDiv_f86c9 h) tb_855 tb_395 tb_42 tb_396 hd_J9_floorDiv_f86c9 rfl ⟨⟨by decide, by decide⟩, by show _ + 0 ≤ 668972; omega, by show _ + 0 ≤ 7086985; omega⟩ hl.1 rfl (Nat.le_of_ble_eq_true rfl) dL_law_1010 (kJ (fun r5 S4 H locs h hO hS => ?_))
    change W _ _ _ _ _ _ _ _ _ _ _ _ (_ + 0) (_ + 0) _ _
    refine lv_lstore C0.1 C0.2.1 dL_law_1013 hl (by decide) rfl (fun ls hl => ?_)
    refine lv_lload C0.1 C0.2.1 dL_law_1015 (lv_at hl 0 rfl) ?_
    refine lv_aload C0.1 C0.2.1 dL_law_1017 (lv_at hl 13 rfl) ?_
    refine lv_iload C0.1 C0.2.1 dL_law_1019 (lv_at hl 23 rfl) ?_
    obtain ⟨i6, h⟩ := h
    obtain ⟨e7, h⟩ := h
    refine r_lald C0 hO i6 e7 dL_law_1021 ?_
    refine W.lcmp C0.1 C0.2.1 dL_law_1022 ?_
    refine lv_if_le (tgt := 1037) C0.1 C0.2.1 dL_law_1023 (by decide) (fun c8 => ?_) (fun c8 => ?_)
    · replace h := h.1 c8
      refine lv_lconst (v := 0) C0.1 C0.2.1 dL_law_1037 (by decide) ?_
      exact bL_law_b1038 C0 Y hl9 hend9 hk670 hk747 hk806 _ _ _ _ _ _ _ _ _ _ _ _ _ _ _ _ _ _ _ _ _ _ _ _ _ _ _ _ _ _ _ h hO hS (lv_sub hl [1, 2, 3, 4, 5, 6, 7, 8, 9, 10, 11, 12, 13, 14, 15, 16, 17, 18, 19, 20, 21, 22, 23, 26, 0] rfl) (by clear h; omega) (by clear h; omega)
    · replace h := h.2 c8
      refine lv_lload C0.1 C0.2.1 dL_law_1026 (lv_at hl 0 rfl) ?_
      refine lv_aload C0.1 C0.2.1 dL_law_1028 (lv_at hl 13 rfl) ?_
      refine lv_iload C0.1 C0.2.1 dL_law_1030 (lv_at hl 23 rfl) ?_
      obtain ⟨e9, h⟩ := h
      refine r_lald C0 hO i6 e9 dL_law_1032 ?_
      refine lv_lsub C0.1 C0.2.1 dL_law_1033 ?_
      refine lv_goto (tgt := 1038) C0.1 C0.2.1 dL_law_1034 (by decide) ?_
      exact bL_law_b1038 C0 Y hl9 hend9 hk670 hk747 hk806 _ _ _ _ _ _ _ _ _ _ _ _ _ _ _ _ _ _ _ _ _ _ _ _ _ _ _ _ _ _ _ h hO hS (lv_sub hl [1, 2, 3, 4, 5, 6, 7, 8, 9, 10, 11, 12, 13, 14, 15, 16, 17, 18, 19, 20, 21, 22, 23, 26, 0] rfl) (by clear h; omega) (by clear h; omega)
def wL_law_b956 (x0 : (Nat → Int32)) (L9 : Nat) (k670 : Hp → Nat → Int32 → Nat → Nat → Nat → Nat → Nat → Nat → Nat → Nat → Nat → Nat → Int32 → Prop) (k747 : Hp → Nat → Int32 → Nat → Nat → Nat → Nat → Nat → Nat → Nat → Nat → Nat → Nat → Int32 → Int32 → Int32 → Int32 → Nat → Nat → Int32 → Prop) (k806 : Hp → Nat → Int32 → Nat → Nat → Nat → Nat → Nat → Nat → Nat → Nat → Nat → Nat → Int32 → Int32 → Int32 → Int32 → Nat → Nat → Int32 → Nat → Nat → Int32 → Prop) (S : Hp) (v1 : Nat) (v2 : Int32) (v3 : Nat) (v4 : Nat) (v5 : Nat) (v6 : Nat) (v7 : Nat) (v8 : Nat) (v9 : Nat) (v10 : Nat) (v11 : Nat) (v12 : Nat) (v13 : Int32) (v14 : Int32) (v15 : Int32) (v16 : Int32) (v17 : Nat) (v18 : Nat) (v19 : Int32) (v20 : Nat) (v21 : Nat) (v22 : Int32) (v23 : Int32) (v24 : Int64) (v26 : Int64) (v28 : Int64) (v30 : Int64) (z0 : Int64) : Prop := isA S v3 20 ∧ vp_in v22 (S.N v3) ∧ ((¬ (S.AI v3 v22.toNatClampNeg) = 118 → wL_law_b994 x0 L9 k670 k747 k806 S v1 v2 v3 v4 v5 v6 v7 v8 v9 v10 v11 v12 v13 v14 v15 v16 v17 v18 v19 v20 v21 v22 v24 v26 v28 v30 z0) ∧ ((S.AI v3 v22.toNatClampNeg) = 118 → wJ9_floorDiv_f86c9 S v24 v26 (fun S4 r5 => isA S4 v8 22 ∧ vp_in v23 (S4.N v8) ∧ isA S4 v9 22 ∧ vp_in v23 (S4.N v9) ∧ wJ9_floorDiv_f86c9 S4 (S4.AJ v8 v23.toNatClampNeg) (S4.AJ v9 v23.toNatClampNeg) (fun S10 r11 => wL_law_b994 x0 L9 k670 k747 k806 S10 v1 v2 v3 v4 v5 v6 v7 v8 v9 v10 v11 v12 v13 v14 v15 v16 v17 v18 v19 v20 v21 v22 v24 v26 v28 (r5 - r11) v28))))
set_option maxHeartbeats 4000000 in
set_option maxRecDepth 100000 in
theorem bL_law_b956 {p : Program} {l : Launch} {e : Env} {s : State} {m : MethodId} {args : Array Value} {below : List Frame} {meth : Method} {c : Code} {G : Gw} {Q : State → Prop}  (C0 : Mx p s m c code 37 args yL_law.cls G) (Y : My meth (some .boolean)) (hl9 : l.stackTraces = false) (hend9 : ∀ (pc : Nat) (H : Heap) (locs : List Loc) (ls : Array Slot) (cells slots : Nat), decode code pc = .ok (.ireturn, 1) → va_S (Ab G.b) s.heap H locs → cells ≤ 668972 → slots ≤ 7086985 → W p l e room_1 s m args below meth c H locs cells slots Q (F0 m pc ls [.int 1])) {n9_670 : Nat} {n9_747 : Nat} {k670 : Hp → Nat → Int32 → Nat → Nat → Nat → Nat → Nat → Nat → Nat → Nat → Nat → Nat → Int32 → Prop} (hk670 : ∀ (S : Hp) (v1 : Nat) (v2 : Int32) (v3 : Nat) (v4 : Nat) (v5 : Nat) (v6 : Nat) (v7 : Nat) (v8 : Nat) (v9 : Nat) (v10 : Nat) (v11 : Nat) (v12 : Nat) (v13 : Int32) (H : Heap) (locs : List Loc) (ls : Array Slot) (cells slots : Nat), k670 S v1 v2 v3 v4 v5 v6 v7 v8 v9 v10 v11 v12 v13 → Ok G S H → va_S (Ab G.b) s.heap H locs → lv_has ls 37 [(0, .ref G.xb), (1, .ref v1), (2, .int v2), (3, .ref v3), (4, .ref v4), (5, .ref v5), (6, .ref v6), (7, .ref v7), (8, .ref v8), (9, .ref v9), (10, .ref v10), (11, .ref v11), (12, .ref v12), (13, .int v13)] → cells + (n9_670 * 127 + 3) ≤ 668972 → slots + (n9_670 * 662 + 18) ≤ 7086985 → W p l e room_1 s m args below meth c H locs cells slots Q (F0 m 670 ls [])) {k747 : Hp → Nat → Int32 → Nat → Nat → Nat → Nat → Nat → Nat → Nat → Nat → Nat → Nat → Int32 → Int32 → Int32 → Int32 → Nat → Nat → Int32 → Prop} (hk747 : ∀ (S : Hp) (v1 : Nat) (v2 : Int32) (v3 : Nat) (v4 : Nat) (v5 : Nat) (v6 : Nat) (v7 : Nat) (v8 : Nat) (v9 : Nat) (v10 : Nat) (v11 : Nat) (v12 : Nat) (v13 : Int32) (v14 : Int32) (v15 : Int32) (v16 : Int32) (v17 : Nat) (v18 : Nat) (v19 : Int32) (H : Heap) (locs : List Loc) (ls : Array Slot) (cells slots : Nat), k747 S v1 v2 v3 v4 v5 v6 v7 v8 v9 v10 v11 v12 v13 v14 v15 v16 v17 v18 v19 → Ok G S H → va_S (Ab G.b) s.heap H locs → lv_has ls 37 [(0, .ref G.xb), (1, .ref v1), (2, .int v2), (3, .ref v3), (4, .ref v4), (5, .ref v5), (6, .ref v6), (7, .ref v7), (8, .ref v8), (9, .ref v9), (10, .ref v10), (11, .ref v11), (12, .ref v12), (13, .int v13), (14, .int v14), (15, .int v15), (16, .int v16), (17, .ref v17), (18, .ref v18), (19, .int v19)] → cells + (n9_670 * 127 + n9_747 * 2 + 30) ≤ 668972 → slots + (n9_670 * 662 + n9_747 * 10 + 180) ≤ 7086985 → W p l e room_1 s m args below meth c H locs cells slots Q (F0 m 747 ls [])) {k806 : Hp → Nat → Int32 → Nat → Nat → Nat → Nat → Nat → Nat → Nat → Nat → Nat → Nat → Int32 → Int32 → Int32 → Int32 → Nat → Nat → Int32 → Nat → Nat → Int32 → Prop} (hk806 : ∀ (S : Hp) (v1 : Nat) (v2 : Int32) (v3 : Nat) (v4 : Nat) (v5 : Nat) (v6 : Nat) (v7 : Nat) (v8 : Nat) (v9 : Nat) (v10 : Nat) (v11 : Nat) (v12 : Nat) (v13 : Int32) (v14 : Int32) (v15 : Int32) (v16 : Int32) (v17 : Nat) (v18 : Nat) (v19 : Int32) (v20 : Nat) (v21 : Nat) (v22 : Int32) (H : Heap) (locs : List Loc) (ls : Array Slot) (cells slots : Nat), k806 S v1 v2 v3 v4 v5 v6 v7 v8 v9 v10 v11 v12 v13 v14 v15 v16 v17 v18 v19 v20 v21 v22 → Ok G S H → va_S (Ab G.b) s.heap H locs → lv_has ls 37 [(0, .ref G.xb), (1, .ref v1), (2, .int v2), (3, .ref v3), (4, .ref v4), (5, .ref v5), (6, .ref v6), (7, .ref v7), (8, .ref v8), (9, .ref v9), (10, .ref v10), (11, .ref v11), (12, .ref v12), (13, .int v13), (14, .int v14), (15, .int v15), (16, .int v16), (17, .ref v17), (18, .ref v18), (19, .int v19), (20, .ref v20), (21, .ref v21), (22, .int v22)] → cells + (n9_670 * 127 + n9_747 * 2 + 30) ≤ 668972 → slots + (n9_670 * 662 + n9_747 * 10 + 180) ≤ 7086985 → W p l e room_1 s m args below meth c H locs cells slots Q (F0 m 806 ls [])) : ∀ (S : Hp) (v1 : Nat) (v2 : Int32) (v3 : Nat) (v4 : Nat) (v5 : Nat) (v6 : Nat) (v7 : Nat) (v8 : Nat) (v9 : Nat) (v10 : Nat) (v11 : Nat) (v12 : Nat) (v13 : Int32) (v14 : Int32) (v15 : Int32) (v16 : Int32) (v17 : Nat) (v18 : Nat) (v19 : Int32) (v20 : Nat) (v21 : Nat) (v22 : Int32) (v23 : Int32) (v24 : Int64) (v26 : Int64) (v28 : Int64) (v30 : Int64) (z0 : Int64) (H : Heap) (locs : List Loc) (ls : Array Slot) (cells slots : Nat), wL_law_b956 G.xs G.xl k670 k747 k806 S v1 v2 v3 v4 v5 v6 v7 v8 v9 v10 v11 v12 v13 v14 v15 v16 v17 v18 v19 v20 v21 v22 v23 v24 v26 v28 v30 z0 → Ok G S H → va_S (Ab G.b) s.heap H locs → lv_has ls 37 [(0, .ref G.xb), (1, .ref v1), (2, .int v2), (3, .ref v3), (4, .ref v4), (5, .ref v5), (6, .ref v6), (7, .ref v7), (8, .ref v8), (9, .ref v9), (10, .ref v10), (11, .ref v11), (12, .ref v12), (13, .int v13), (14, .int v14), (15, .int v15), (16, .int v16), (17, .ref v17), (18, .ref v18), (19, .int v19), (20, .ref v20), (21, .ref v21), (22, .int v22), (23, .int v23), (24, .long v24), (26, .long v26), (28, .long v28), (30, .long v30)] → cells + (n9_670 * 127 + n9_747 * 2 + 30) ≤ 668972 → slots + (n9_670 * 662 + n9_747 * 10 + 180) ≤ 7086985 → W p l e room_1 s m args below meth c H locs cells slots Q (F0 m 956 ls [.long z0]) := by
  intro S v1 v2 v3 v4 v5 v6 v7 v8 v9 v10 v11 v12 v13 v14 v15 v16 v17 v18 v19 v20 v21 v22 v23 v24 v26 v28 v30 z0 H locs ls cells slots h hO hS hl hcc hss
  unfold wL_law_b956 at h
  refine lv_lstore C0.1 C0.2.1 dL_law_956 hl (by decide) rfl (fun ls hl => ?_)
  refine lv_aload_n C0.1 C0.2.1 dL_law_958 rfl (lv_at hl 4 rfl) ?_
  refine lv_iload C0.1 C0.2.1 dL_law_959 (lv_at hl 23 rfl) ?_
  obtain ⟨i1, h⟩ := h
  obtain ⟨e2, h⟩ := h
  refine r_cald C0 hO i1 e2 dL_law_961 ?_
  refine lv_bipush (v := 118) C0.1 C0.2.1 dL_law_962 (by decide) ?_
  refine lv_icmp_ne (tgt := 994) C0.1 C0.2.1 dL_law_964 (by decide) (fun c3 => ?_) (fun c3 => ?_)
  · replace h := h.1 c3
    exact bL_law_b994 C0 Y hl9 hend9 hk670 hk747 hk806 _ _ _ _ _ _ _ _ _ _ _ _ _ _ _ _ _ _ _ _ _ _ _ _ _ _ _ _ _ _ _ _ _ h hO hS (lv_sub hl [1, 2, 3, 4, 5, 6, 7, 8, 9, 10, 11, 12, 13, 14, 15, 16, 17, 18, 19, 20, 21, 22, 23, 25, 26, 27, 28, 0] rfl) (by clear h; omega) (by clear h; omega)
  · replace h := h.2 c3
    refine lv_lload C0.1 C0.2.1 dL_law_967 (lv_at hl 25 rfl) ?_
    refine lv_lload C0.1 C0.2.1 dL_law_969 (lv_at hl 26 rfl) ?_
    refine c_S C0 hO hS (mJ9_floorDiv_f86c9 h) tb_855 tb_395 tb_42 tb_396 hd_J9_floorDiv_f86c9 rfl ⟨⟨by decide, by decide⟩, by show _ + 0 ≤ 668972; omega, by show _ + 0 ≤ 7086985; omega⟩ hl.1 rfl (Nat.le_of_ble_eq_true rfl) dL_law_971 (kJ (fun r5 S4 H locs h hO hS => ?_))
    change W _ _ _ _ _ _ _ _ _ _ _ _ (_ + 0) (_ + 0) _ _
    refine lv_aload C0.1 C0.2.1 dL_law_974 (lv_at hl 9 rfl) ?_
    refine lv_iload C0.1 C0.2.1 dL_law_976 (lv_at hl 24 rfl) ?_
    obtain ⟨i6, h⟩ := h
    obtain ⟨e7, h⟩ := h
    refine r_lald C0 hO i6 e7 dL_law_978 ?_
    refine lv_aload C0.1 C0.2.1 dL_law_979 (lv_at hl 10 rfl) ?_
    refine lv_iload C0.1 C0.2.1 dL_law_981 (lv_at hl 24 rfl) ?_
    obtain ⟨i8, h⟩ := h
    obtain ⟨e9, h⟩ := h
    refine r_lald C0 hO i8 e9 dL_law_983 ?_
    refine c_S C0 hO hS (mJ9_floorDiv_f86c9 h) tb_855 tb_395 tb_42 tb_396 hd_J9_floorDiv_f86c9 rfl ⟨⟨by decide, by decide⟩, by show _ + 0 ≤ 668972; omega, by show _ + 0 ≤ 7086985; omega⟩ hl.1 rfl (Nat.le_of_ble_eq_true rfl) dL_law_984 (kJ (fun r11 S10 H locs h hO hS => ?_))
    change W _ _ _ _ _ _ _ _ _ _ _ _ (_ + 0) (_ + 0) _ _
    refine lv_lsub C0.1 C0.2.1 dL_law_987 ?_
    refine lv_lstore C0.1 C0.2.1 dL_law_988 hl (by decide) rfl (fun ls hl => ?_)
    refine lv_lload C0.1 C0.2.1 dL_law_990 (lv_at hl 28 rfl) ?_
    refine lv_lstore C0.1 C0.2.1 dL_law_992 hl (by decide) rfl (fun ls hl => ?_)
    exact bL_law_b994 C0 Y hl9 hend9 hk670 hk747 hk806 _ _ _ _ _ _ _ _ _ _ _ _ _ _ _ _ _ _ _ _ _ _ _ _ _ _ _ _ _ _ _ _ _ h hO hS (lv_sub hl [2, 3, 4, 5, 6, 7, 8, 9, 10, 11, 12, 13, 14, 15, 16, 17, 18, 19, 20, 21, 22, 23, 24, 26, 27, 28, 1, 0] rfl) (by clear h; omega) (by clear h; omega)
def wL_law_b936 (x0 : (Nat → Int32)) (L9 : Nat) (k670 : Hp → Nat → Int32 → Nat → Nat → Nat → Nat → Nat → Nat → Nat → Nat → Nat → Nat → Int32 → Prop) (k747 : Hp → Nat → Int32 → Nat → Nat → Nat → Nat → Nat → Nat → Nat → Nat → Nat → Nat → Int32 → Int32 → Int32 → Int32 → Nat → Nat → Int32 → Prop) (k806 : Hp → Nat → Int32 → Nat → Nat → Nat → Nat → Nat → Nat → Nat → Nat → Nat → Nat → Int32 → Int32 → Int32 → Int32 → Nat → Nat → Int32 → Nat → Nat → Int32 → Prop) (S : Hp) (v1 : Nat) (v2 : Int32) (v3 : Nat) (v4 : Nat) (v5 : Nat) (v6 : Nat) (v7 : Nat) (v8 : Nat) (v9 : Nat) (v10 : Nat) (v11 : Nat) (v12 : Nat) (v13 : Int32) (v14 : Int32) (v15 : Int32) (v16 : Int32) (v17 : Nat) (v18 : Nat) (v19 : Int32) (v20 : Nat) (v21 : Nat) (v22 : Int32) (v23 : Int32) (v24 : Int64) (v26 : Int64) (v28 : Int64) (v30 : Int64) : Prop := isA S v21 22 ∧ vp_in v23 (S.N v21) ∧ isA S v5 21 ∧ vp_in v22 (S.N v5) ∧ wL_law_b956 x0 L9 k670 k747 k806 S v1 v2 v3 v4 v5 v6 v7 v8 v9 v10 v11 v12 v13 v14 v15 v16 v17 v18 v19 v20 v21 v22 v23 v24 v26 v28 v30 ((S.AJ v21 v23.toNatClampNeg) * ((S.AI v5 v22.toNatClampNeg).toInt64))
set_option maxHeartbeats 4000000 in
set_option maxRecDepth 100000 in
theorem bL_law_b936 {p : Program} {l : Launch} {e : Env} {s : State} {m : MethodId} {args : Array Value} {below : List Frame} {meth : Method} {c : Code} {G : Gw} {Q : State → Prop}  (C0 : Mx p s m c code 37 args yL_law.cls G) (Y : My meth (some .boolean)) (hl9 : l.stackTraces = false) (hend9 : ∀ (pc : Nat) (H : Heap) (locs : List Loc) (ls : Array Slot) (cells slots : Nat), decode code pc = .ok (.ireturn, 1) → va_S (Ab G.b) s.heap H locs → cells ≤ 668972 → slots ≤ 7086985 → W p l e room_1 s m args below meth c H locs cells slots Q (F0 m pc ls [.int 1])) {n9_670 : Nat} {n9_747 : Nat} {k670 : Hp → Nat → Int32 → Nat → Nat → Nat → Nat → Nat → Nat → Nat → Nat → Nat → Nat → Int32 → Prop} (hk670 : ∀ (S : Hp) (v1 : Nat) (v2 : Int32) (v3 : Nat) (v4 : Nat) (v5 : Nat) (v6 : Nat) (v7 : Nat) (v8 : Nat) (v9 : Nat) (v10 : Nat) (v11 : Nat) (v12 : Nat) (v13 : Int32) (H : Heap) (locs : List Loc) (ls : Array Slot) (cells slots : Nat), k670 S v1 v2 v3 v4 v5 v6 v7 v8 v9 v10 v11 v12 v13 → Ok G S H → va_S (Ab G.b) s.heap H locs → lv_has ls 37 [(0, .ref G.xb), (1, .ref v1), (2, .int v2), (3, .ref v3), (4, .ref v4), (5, .ref v5), (6, .ref v6), (7, .ref v7), (8, .ref v8), (9, .ref v9), (10, .ref v10), (11, .ref v11), (12, .ref v12), (13, .int v13)] → cells + (n9_670 * 127 + 3) ≤ 668972 → slots + (n9_670 * 662 + 18) ≤ 7086985 → W p l e room_1 s m args below meth c H locs cells slots Q (F0 m 670 ls [])) {k747 : Hp → Nat → Int32 → Nat → Nat → Nat → Nat → Nat → Nat → Nat → Nat → Nat → Nat → Int32 → Int32 → Int32 → Int32 → Nat → Nat → Int32 → Prop} (hk747 : ∀ (S : Hp) (v1 : Nat) (v2 : Int32) (v3 : Nat) (v4 : Nat) (v5 : Nat) (v6 : Nat) (v7 : Nat) (v8 : Nat) (v9 : Nat) (v10 : Nat) (v11 : Nat) (v12 : Nat) (v13 : Int32) (v14 : Int32) (v15 : Int32) (v16 : Int32) (v17 : Nat) (v18 : Nat) (v19 : Int32) (H : Heap) (locs : List Loc) (ls : Array Slot) (cells slots : Nat), k747 S v1 v2 v3 v4 v5 v6 v7 v8 v9 v10 v11 v12 v13 v14 v15 v16 v17 v18 v19 → Ok G S H → va_S (Ab G.b) s.heap H locs → lv_has ls 37 [(0, .ref G.xb), (1, .ref v1), (2, .int v2), (3, .ref v3), (4, .ref v4), (5, .ref v5), (6, .ref v6), (7, .ref v7), (8, .ref v8), (9, .ref v9), (10, .ref v10), (11, .ref v11), (12, .ref v12), (13, .int v13), (14, .int v14), (15, .int v15), (16, .int v16), (17, .ref v17), (18, .ref v18), (19, .int v19)] → cells + (n9_670 * 127 + n9_747 * 2 + 30) ≤ 668972 → slots + (n9_670 * 662 + n9_747 * 10 + 180) ≤ 7086985 → W p l e room_1 s m args below meth c H locs cells slots Q (F0 m 747 ls [])) {k806 : Hp → Nat → Int32 → Nat → Nat → Nat → Nat → Nat → Nat → Nat → Nat → Nat → Nat → Int32 → Int32 → Int32 → Int32 → Nat → Nat → Int32 → Nat → Nat → Int32 → Prop} (hk806 : ∀ (S : Hp) (v1 : Nat) (v2 : Int32) (v3 : Nat) (v4 : Nat) (v5 : Nat) (v6 : Nat) (v7 : Nat) (v8 : Nat) (v9 : Nat) (v10 : Nat) (v11 : Nat) (v12 : Nat) (v13 : Int32) (v14 : Int32) (v15 : Int32) (v16 : Int32) (v17 : Nat) (v18 : Nat) (v19 : Int32) (v20 : Nat) (v21 : Nat) (v22 : Int32) (H : Heap) (locs : List Loc) (ls : Array Slot) (cells slots : Nat), k806 S v1 v2 v3 v4 v5 v6 v7 v8 v9 v10 v11 v12 v13 v14 v15 v16 v17 v18 v19 v20 v21 v22 → Ok G S H → va_S (Ab G.b) s.heap H locs → lv_has ls 37 [(0, .ref G.xb), (1, .ref v1), (2, .int v2), (3, .ref v3), (4, .ref v4), (5, .ref v5), (6, .ref v6), (7, .ref v7), (8, .ref v8), (9, .ref v9), (10, .ref v10), (11, .ref v11), (12, .ref v12), (13, .int v13), (14, .int v14), (15, .int v15), (16, .int v16), (17, .ref v17), (18, .ref v18), (19, .int v19), (20, .ref v20), (21, .ref v21), (22, .int v22)] → cells + (n9_670 * 127 + n9_747 * 2 + 30) ≤ 668972 → slots + (n9_670 * 662 + n9_747 * 10 + 180) ≤ 7086985 → W p l e room_1 s m args below meth c H locs cells slots Q (F0 m 806 ls [])) : ∀ (S : Hp) (v1 : Nat) (v2 : Int32) (v3 : Nat) (v4 : Nat) (v5 : Nat) (v6 : Nat) (v7 : Nat) (v8 : Nat) (v9 : Nat) (v10 : Nat) (v11 : Nat) (v12 : Nat) (v13 : Int32) (v14 : Int32) (v15 : Int32) (v16 : Int32) (v17 : Nat) (v18 : Nat) (v19 : Int32) (v20 : Nat) (v21 : Nat) (v22 : Int32) (v23 : Int32) (v24 : Int64) (v26 : Int64) (v28 : Int64) (v30 : Int64) (H : Heap) (locs : List Loc) (ls : Array Slot) (cells slots : Nat), wL_law_b936 G.xs G.xl k670 k747 k806 S v1 v2 v3 v4 v5 v6 v7 v8 v9 v10 v11 v12 v13 v14 v15 v16 v17 v18 v19 v20 v21 v22 v23 v24 v26 v28 v30 → Ok G S H → va_S (Ab G.b) s.heap H locs → lv_has ls 37 [(0, .ref G.xb), (1, .ref v1), (2, .int v2), (3, .ref v3), (4, .ref v4), (5, .ref v5), (6, .ref v6), (7, .ref v7), (8, .ref v8), (9, .ref v9), (10, .ref v10), (11, .ref v11), (12, .ref v12), (13, .int v13), (14, .int v14), (15, .int v15), (16, .int v16), (17, .ref v17), (18, .ref v18), (19, .int v19), (20, .ref v20), (21, .ref v21), (22, .int v22), (23, .int v23), (24, .long v24), (26, .long v26), (28, .long v28), (30, .long v30)] → cells + (n9_670 * 127 + n9_747 * 2 + 30) ≤ 668972 → slots + (n9_670 * 662 + n9_747 * 10 + 180) ≤ 7086985 → W p l e room_1 s m args below meth c H locs cells slots Q (F0 m 936 ls []) := by
  intro S v1 v2 v3 v4 v5 v6 v7 v8 v9 v10 v11 v12 v13 v14 v15 v16 v17 v18 v19 v20 v21 v22 v23 v24 v26 v28 v30 H locs ls cells slots h hO hS hl hcc hss
  unfold wL_law_b936 at h
  refine lv_aload C0.1 C0.2.1 dL_law_936 (lv_at hl 21 rfl) ?_
  refine lv_iload C0.1 C0.2.1 dL_law_938 (lv_at hl 23 rfl) ?_
  obtain ⟨i1, h⟩ := h
  obtain ⟨e2, h⟩ := h
  refine r_lald C0 hO i1 e2 dL_law_940 ?_
  refine lv_aload C0.1 C0.2.1 dL_law_941 (lv_at hl 5 rfl) ?_
  refine lv_iload C0.1 C0.2.1 dL_law_943 (lv_at hl 22 rfl) ?_
  obtain ⟨i3, h⟩ := h
  obtain ⟨e4, h⟩ := h
  refine r_iald C0 hO i3 e4 dL_law_945 ?_
  refine lv_i2l C0.1 C0.2.1 dL_law_946 rfl ?_
  refine lv_lmul C0.1 C0.2.1 dL_law_947 ?_
  refine lv_goto (tgt := 956) C0.1 C0.2.1 dL_law_948 (by decide) ?_
  exact bL_law_b956 C0 Y hl9 hend9 hk670 hk747 hk806 _ _ _ _ _ _ _ _ _ _ _ _ _ _ _ _ _ _ _ _ _ _ _ _ _ _ _ _ _ _ _ _ _ _ h hO hS (lv_sub hl [0, 1, 2, 3, 4, 5, 6, 7, 8, 9, 10, 11, 12, 13, 14, 15, 16, 17, 18, 19, 20, 21, 22, 23, 24, 25, 26, 27] rfl) (by clear h; omega) (by clear h; omega)
def wL_law_b916 (x0 : (Nat → Int32)) (L9 : Nat) (k670 : Hp → Nat → Int32 → Nat → Nat → Nat → Nat → Nat → Nat → Nat → Nat → Nat → Nat → Int32 → Prop) (k747 : Hp → Nat → Int32 → Nat → Nat → Nat → Nat → Nat → Nat → Nat → Nat → Nat → Nat → Int32 → Int32 → Int32 → Int32 → Nat → Nat → Int32 → Prop) (k806 : Hp → Nat → Int32 → Nat → Nat → Nat → Nat → Nat → Nat → Nat → Nat → Nat → Nat → Int32 → Int32 → Int32 → Int32 → Nat → Nat → Int32 → Nat → Nat → Int32 → Prop) (S : Hp) (v1 : Nat) (v2 : Int32) (v3 : Nat) (v4 : Nat) (v5 : Nat) (v6 : Nat) (v7 : Nat) (v8 : Nat) (v9 : Nat) (v10 : Nat) (v11 : Nat) (v12 : Nat) (v13 : Int32) (v14 : Int32) (v15 : Int32) (v16 : Int32) (v17 : Nat) (v18 : Nat) (v19 : Int32) (v20 : Nat) (v21 : Nat) (v22 : Int32) (v23 : Int32) (v24 : Int64) (v26 : Int64) (v28 : Int64) (z0 : Int64) : Prop := isA S v3 20 ∧ vp_in v22 (S.N v3) ∧ (((S.AI v3 v22.toNatClampNeg) = 103 → wL_law_b936 x0 L9 k670 k747 k806 S v1 v2 v3 v4 v5 v6 v7 v8 v9 v10 v11 v12 v13 v14 v15 v16 v17 v18 v19 v20 v21 v22 v23 v24 v26 v28 z0) ∧ (¬ ((S.AI v3 v22.toNatClampNeg) = 103) → vp_in v22 (S.N v3) ∧ ((¬ (S.AI v3 v22.toNatClampNeg) = 105 → isA S v21 22 ∧ vp_in v23 (S.N v21) ∧ wL_law_b956 x0 L9 k670 k747 k806 S v1 v2 v3 v4 v5 v6 v7 v8 v9 v10 v11 v12 v13 v14 v15 v16 v17 v18 v19 v20 v21 v22 v23 v24 v26 v28 z0 (S.AJ v21 v23.toNatClampNeg)) ∧ ((S.AI v3 v22.toNatClampNeg) = 105 → wL_law_b936 x0 L9 k670 k747 k806 S v1 v2 v3 v4 v5 v6 v7 v8 v9 v10 v11 v12 v13 v14 v15 v16 v17 v18 v19 v20 v21 v22 v23 v24 v26 v28 z0))))
set_option maxHeartbeats 4000000 in
set_option maxRecDepth 100000 in
theorem bL_law_b916 {p : Program} {l : Launch} {e : Env} {s : State} {m : MethodId} {args : Array Value} {below : List Frame} {meth : Method} {c : Code} {G : Gw} {Q : State → Prop}  (C0 : Mx p s m c code 37 args yL_law.cls G) (Y : My meth (some .boolean)) (hl9 : l.stackTraces = false) (hend9 : ∀ (pc : Nat) (H : Heap) (locs : List Loc) (ls : Array Slot) (cells slots : Nat), decode code pc = .ok (.ireturn, 1) → va_S (Ab G.b) s.heap H locs → cells ≤ 668972 → slots ≤ 7086985 → W p l e room_1 s m args below meth c H locs cells slots Q (F0 m pc ls [.int 1])) {n9_670 : Nat} {n9_747 : Nat} {k670 : Hp → Nat → Int32 → Nat → Nat → Nat → Nat → Nat → Nat → Nat → Nat → Nat → Nat → Int32 → Prop} (hk670 : ∀ (S : Hp) (v1 : Nat) (v2 : Int32) (v3 : Nat) (v4 : Nat) (v5 : Nat) (v6 : Nat) (v7 : Nat) (v8 : Nat) (v9 : Nat) (v10 : Nat) (v11 : Nat) (v12 : Nat) (v13 : Int32) (H : Heap) (locs : List Loc) (ls : Array Slot) (cells slots : Nat), k670 S v1 v2 v3 v4 v5 v6 v7 v8 v9 v10 v11 v12 v13 → Ok G S H → va_S (Ab G.b) s.heap H locs → lv_has ls 37 [(0, .ref G.xb), (1, .ref v1), (2, .int v2), (3, .ref v3), (4, .ref v4), (5, .ref v5), (6, .ref v6), (7, .ref v7), (8, .ref v8), (9, .ref v9), (10, .ref v10), (11, .ref v11), (12, .ref v12), (13, .int v13)] → cells + (n9_670 * 127 + 3) ≤ 668972 → slots + (n9_670 * 662 + 18) ≤ 7086985 → W p l e room_1 s m args below meth c H locs cells slots Q (F0 m 670 ls [])) {k747 : Hp → Nat → Int32 → Nat → Nat → Nat → Nat → Nat → Nat → Nat → Nat → Nat → Nat → Int32 → Int32 → Int32 → Int32 → Nat → Nat → Int32 → Prop} (hk747 : ∀ (S : Hp) (v1 : Nat) (v2 : Int32) (v3 : Nat) (v4 : Nat) (v5 : Nat) (v6 : Nat) (v7 : Nat) (v8 : Nat) (v9 : Nat) (v10 : Nat) (v11 : Nat) (v12 : Nat) (v13 : Int32) (v14 : Int32) (v15 : Int32) (v16 : Int32) (v17 : Nat) (v18 : Nat) (v19 : Int32) (H : Heap) (locs : List Loc) (ls : Array Slot) (cells slots : Nat), k747 S v1 v2 v3 v4 v5 v6 v7 v8 v9 v10 v11 v12 v13 v14 v15 v16 v17 v18 v19 → Ok G S H → va_S (Ab G.b) s.heap H locs → lv_has ls 37 [(0, .ref G.xb), (1, .ref v1), (2, .int v2), (3, .ref v3), (4, .ref v4), (5, .ref v5), (6, .ref v6), (7, .ref v7), (8, .ref v8), (9, .ref v9), (10, .ref v10), (11, .ref v11), (12, .ref v12), (13, .int v13), (14, .int v14), (15, .int v15), (16, .int v16), (17, .ref v17), (18, .ref v18), (19, .int v19)] → cells + (n9_670 * 127 + n9_747 * 2 + 30) ≤ 668972 → slots + (n9_670 * 662 + n9_747 * 10 + 180) ≤ 7086985 → W p l e room_1 s m args below meth c H locs cells slots Q (F0 m 747 ls [])) {k806 : Hp → Nat → Int32 → Nat → Nat → Nat → Nat → Nat → Nat → Nat → Nat → Nat → Nat → Int32 → Int32 → Int32 → Int32 → Nat → Nat → Int32 → Nat → Nat → Int32 → Prop} (hk806 : ∀ (S : Hp) (v1 : Nat) (v2 : Int32) (v3 : Nat) (v4 : Nat) (v5 : Nat) (v6 : Nat) (v7 : Nat) (v8 : Nat) (v9 : Nat) (v10 : Nat) (v11 : Nat) (v12 : Nat) (v13 : Int32) (v14 : Int32) (v15 : Int32) (v16 : Int32) (v17 : Nat) (v18 : Nat) (v19 : Int32) (v20 : Nat) (v21 : Nat) (v22 : Int32) (H : Heap) (locs : List Loc) (ls : Array Slot) (cells slots : Nat), k806 S v1 v2 v3 v4 v5 v6 v7 v8 v9 v10 v11 v12 v13 v14 v15 v16 v17 v18 v19 v20 v21 v22 → Ok G S H → va_S (Ab G.b) s.heap H locs → lv_has ls 37 [(0, .ref G.xb), (1, .ref v1), (2, .int v2), (3, .ref v3), (4, .ref v4), (5, .ref v5), (6, .ref v6), (7, .ref v7), (8, .ref v8), (9, .ref v9), (10, .ref v10), (11, .ref v11), (12, .ref v12), (13, .int v13), (14, .int v14), (15, .int v15), (16, .int v16), (17, .ref v17), (18, .ref v18), (19, .int v19), (20, .ref v20), (21, .ref v21), (22, .int v22)] → cells + (n9_670 * 127 + n9_747 * 2 + 30) ≤ 668972 → slots + (n9_670 * 662 + n9_747 * 10 + 180) ≤ 7086985 → W p l e room_1 s m args below meth c H locs cells slots Q (F0 m 806 ls [])) : ∀ (S : Hp) (v1 : Nat) (v2 : Int32) (v3 : Nat) (v4 : Nat) (v5 : Nat) (v6 : Nat) (v7 : Nat) (v8 : Nat) (v9 : Nat) (v10 : Nat) (v11 : Nat) (v12 : Nat) (v13 : Int32) (v14 : Int32) (v15 : Int32) (v16 : Int32) (v17 : Nat) (v18 : Nat) (v19 : Int32) (v20 : Nat) (v21 : Nat) (v22 : Int32) (v23 : Int32) (v24 : Int64) (v26 : Int64) (v28 : Int64) (z0 : Int64) (H : Heap) (locs : List Loc) (ls : Array Slot) (cells slots : Nat), wL_law_b916 G.xs G.xl k670 k747 k806 S v1 v2 v3 v4 v5 v6 v7 v8 v9 v10 v11 v12 v13 v14 v15 v16 v17 v18 v19 v20 v21 v22 v23 v24 v26 v28 z0 → Ok G S H → va_S (Ab G.b) s.heap H locs → lv_has ls 37 [(0, .ref G.xb), (1, .ref v1), (2, .int v2), (3, .ref v3), (4, .ref v4), (5, .ref v5), (6, .ref v6), (7, .ref v7), (8, .ref v8), (9, .ref v9), (10, .ref v10), (11, .ref v11), (12, .ref v12), (13, .int v13), (14, .int v14), (15, .int v15), (16, .int v16), (17, .ref v17), (18, .ref v18), (19, .int v19), (20, .ref v20), (21, .ref v21), (22, .int v22), (23, .int v23), (24, .long v24), (26, .long v26), (28, .long v28)] → cells + (n9_670 * 127 + n9_747 * 2 + 30) ≤ 668972 → slots + (n9_670 * 662 + n9_747 * 10 + 180) ≤ 7086985 → W p l e room_1 s m args below meth c H locs cells slots Q (F0 m 916 ls [.long z0]) := by
  intro S v1 v2 v3 v4 v5 v6 v7 v8 v9 v10 v11 v12 v13 v14 v15 v16 v17 v18 v19 v20 v21 v22 v23 v24 v26 v28 z0 H locs ls cells slots h hO hS hl hcc hss
  unfold wL_law_b916 at h
  refine lv_lstore C0.1 C0.2.1 dL_law_916 hl (by decide) rfl (fun ls hl => ?_)
  refine lv_aload_n C0.1 C0.2.1 dL_law_918 rfl (lv_at hl 4 rfl) ?_
  refine lv_iload C0.1 C0.2.1 dL_law_919 (lv_at hl 23 rfl) ?_
  obtain ⟨i1, h⟩ := h
  obtain ⟨e2, h⟩ := h
  refine r_cald C0 hO i1 e2 dL_law_921 ?_
  refine lv_bipush (v := 103) C0.1 C0.2.1 dL_law_922 (by decide) ?_
  refine lv_icmp_eq (tgt := 936) C0.1 C0.2.1 dL_law_924 (by decide) (fun c3 => ?_) (fun c3 => ?_)
  · replace h := h.1 c3
    exact bL_law_b936 C0 Y hl9 hend9 hk670 hk747 hk806 _ _ _ _ _ _ _ _ _ _ _ _ _ _ _ _ _ _ _ _ _ _ _ _ _ _ _ _ _ _ _ _ _ h hO hS (lv_sub hl [1, 2, 3, 4, 5, 6, 7, 8, 9, 10, 11, 12, 13, 14, 15, 16, 17, 18, 19, 20, 21, 22, 23, 24, 25, 26, 27, 0] rfl) (by clear h; omega) (by clear h; omega)
  · replace h := h.2 c3
    refine lv_aload_n C0.1 C0.2.1 dL_law_927 rfl (lv_at hl 4 rfl) ?_
    refine lv_iload C0.1 C0.2.1 dL_law_928 (lv_at hl 23 rfl) ?_
    obtain ⟨e4, h⟩ := h
    refine r_cald C0 hO i1 e4 dL_law_930 ?_
    refine lv_bipush (v := 105) C0.1 C0.2.1 dL_law_931 (by decide) ?_
    refine lv_icmp_ne (tgt := 951) C0.1 C0.2.1 dL_law_933 (by decide) (fun c5 => ?_) (fun c5 => ?_)
    · replace h := h.1 c5
      refine lv_aload C0.1 C0.2.1 dL_law_951 (lv_at hl 22 rfl) ?_
      refine lv_iload C0.1 C0.2.1 dL_law_953 (lv_at hl 24 rfl) ?_
      obtain ⟨i6, h⟩ := h
      obtain ⟨e7, h⟩ := h
      refine r_lald C0 hO i6 e7 dL_law_955 ?_
      exact bL_law_b956 C0 Y hl9 hend9 hk670 hk747 hk806 _ _ _ _ _ _ _ _ _ _ _ _ _ _ _ _ _ _ _ _ _ _ _ _ _ _ _ _ _ _ _ _ _ _ h hO hS (lv_sub hl [1, 2, 3, 4, 5, 6, 7, 8, 9, 10, 11, 12, 13, 14, 15, 16, 17, 18, 19, 20, 21, 22, 23, 24, 25, 26, 27, 0] rfl) (by clear h; omega) (by clear h; omega)
    · replace h := h.2 c5
      exact bL_law_b936 C0 Y hl9 hend9 hk670 hk747 hk806 _ _ _ _ _ _ _ _ _ _ _ _ _ _ _ _ _ _ _ _ _ _ _ _ _ _ _ _ _ _ _ _ _ h hO hS (lv_sub hl [1, 2, 3, 4, 5, 6, 7, 8, 9, 10, 11, 12, 13, 14, 15, 16, 17, 18, 19, 20, 21, 22, 23, 24, 25, 26, 27, 0] rfl) (by clear h; omega) (by clear h; omega)
def wL_law_b1262 (x0 : (Nat → Int32)) (L9 : Nat) (k670 : Hp → Nat → Int32 → Nat → Nat → Nat → Nat → Nat → Nat → Nat → Nat → Nat → Nat → Int32 → Prop) (k747 : Hp → Nat → Int32 → Nat → Nat → Nat → Nat → Nat → Nat → Nat → Nat → Nat → Nat → Int32 → Int32 → Int32 → Int32 → Nat → Nat → Int32 → Prop) (k1201 : Hp → Nat → Int32 → Nat → Nat → Nat → Nat → Nat → Nat → Nat → Nat → Nat → Nat → Int32 → Int32 → Int32 → Int32 → Nat → Nat → Int32 → Nat → Nat → Int32 → Prop) (S : Hp) (v1 : Nat) (v2 : Int32) (v3 : Nat) (v4 : Nat) (v5 : Nat) (v6 : Nat) (v7 : Nat) (v8 : Nat) (v9 : Nat) (v10 : Nat) (v11 : Nat) (v12 : Nat) (v13 : Int32) (v14 : Int32) (v15 : Int32) (v16 : Int32) (v17 : Nat) (v18 : Nat) (v19 : Int32) (v20 : Nat) (v21 : Nat) (v28 : Int32) (v29 : Int32) (v30 : Int32) (z0 : Int64) : Prop := isA S v10 22 ∧ vp_in v29 (S.N v10) ∧ isA S v21 22 ∧ vp_in v30 (S.N v21) ∧ isA S v11 22 ∧ vp_in v29 (S.N v11) ∧ vp_in v29 (S.N v11) ∧ vp_in v30 (S.N v21) ∧ wL_common 90 S (((S.AJ v10 v29.toNatClampNeg) * (S.AJ v21 v30.toNatClampNeg)) + (z0 * (S.AJ v11 v29.toNatClampNeg))) ((S.AJ v11 v29.toNatClampNeg) * (S.AJ v21 v30.toNatClampNeg)) (fun S9 r10 => ¬ r10 = 0 ∧ isA S9 v10 22 ∧ vp_in v29 (S9.N v10) ∧ ∀ S14, S14 = S9.setAJ v10 v29.toNatClampNeg ((((S.AJ v10 v29.toNatClampNeg) * (S.AJ v21 v30.toNatClampNeg)) + (z0 * (S.AJ v11 v29.toNatClampNeg))) / r10) → wL_common 90 S14 (((S.AJ v10 v29.toNatClampNeg) * (S.AJ v21 v30.toNatClampNeg)) + (z0 * (S.AJ v11 v29.toNatClampNeg))) ((S.AJ v11 v29.toNatClampNeg) * (S.AJ v21 v30.toNatClampNeg)) (fun S15 r16 => ¬ r16 = 0 ∧ isA S15 v11 22 ∧ vp_in v29 (S15.N v11) ∧ ∀ S20, S20 = S15.setAJ v11 v29.toNatClampNeg (((S.AJ v11 v29.toNatClampNeg) * (S.AJ v21 v30.toNatClampNeg)) / r16) → k1201 S20 v1 v2 v3 v4 v5 v6 v7 v8 v9 v10 v11 v12 v13 v14 v15 v16 v17 v18 v19 v20 v21 (v28 + 1)))
set_option maxHeartbeats 4000000 in
set_option maxRecDepth 100000 in
theorem bL_law_b1262 {p : Program} {l : Launch} {e : Env} {s : State} {m : MethodId} {args : Array Value} {below : List Frame} {meth : Method} {c : Code} {G : Gw} {Q : State → Prop}  (C0 : Mx p s m c code 37 args yL_law.cls G) (Y : My meth (some .boolean)) (hl9 : l.stackTraces = false) (hend9 : ∀ (pc : Nat) (H : Heap) (locs : List Loc) (ls : Array Slot) (cells slots : Nat), decode code pc = .ok (.ireturn, 1) → va_S (Ab G.b) s.heap H locs → cells ≤ 668972 → slots ≤ 7086985 → W p l e room_1 s m args below meth c H locs cells slots Q (F0 m pc ls [.int 1])) {n9_670 : Nat} {n9_747 : Nat} {k670 : Hp → Nat → Int32 → Nat → Nat → Nat → Nat → Nat → Nat → Nat → Nat → Nat → Nat → Int32 → Prop} (hk670 : ∀ (S : Hp) (v1 : Nat) (v2 : Int32) (v3 : Nat) (v4 : Nat) (v5 : Nat) (v6 : Nat) (v7 : Nat) (v8 : Nat) (v9 : Nat) (v10 : Nat) (v11 : Nat) (v12 : Nat) (v13 : Int32) (H : Heap) (locs : List Loc) (ls : Array Slot) (cells slots : Nat), k670 S v1 v2 v3 v4 v5 v6 v7 v8 v9 v10 v11 v12 v13 → Ok G S H → va_S (Ab G.b) s.heap H locs → lv_has ls 37 [(0, .ref G.xb), (1, .ref v1), (2, .int v2), (3, .ref v3), (4, .ref v4), (5, .ref v5), (6, .ref v6), (7, .ref v7), (8, .ref v8), (9, .ref v9), (10, .ref v10), (11, .ref v11), (12, .ref v12), (13, .int v13)] → cells + (n9_670 * 127 + 3) ≤ 668972 → slots + (n9_670 * 662 + 18) ≤ 7086985 → W p l e room_1 s m args below meth c H locs cells slots Q (F0 m 670 ls [])) {k747 : Hp → Nat → Int32 → Nat → Nat → Nat → Nat → Nat → Nat → Nat → Nat → Nat → Nat → Int32 → Int32 → Int32 → Int32 → Nat → Nat → Int32 → Prop} (hk747 : ∀ (S : Hp) (v1 : Nat) (v2 : Int32) (v3 : Nat) (v4 : Nat) (v5 : Nat) (v6 : Nat) (v7 : Nat) (v8 : Nat) (v9 : Nat) (v10 : Nat) (v11 : Nat) (v12 : Nat) (v13 : Int32) (v14 : Int32) (v15 : Int32) (v16 : Int32) (v17 : Nat) (v18 : Nat) (v19 : Int32) (H : Heap) (locs : List Loc) (ls : Array Slot) (cells slots : Nat), k747 S v1 v2 v3 v4 v5 v6 v7 v8 v9 v10 v11 v12 v13 v14 v15 v16 v17 v18 v19 → Ok G S H → va_S (Ab G.b) s.heap H locs → lv_has ls 37 [(0, .ref G.xb), (1, .ref v1), (2, .int v2), (3, .ref v3), (4, .ref v4), (5, .ref v5), (6, .ref v6), (7, .ref v7), (8, .ref v8), (9, .ref v9), (10, .ref v10), (11, .ref v11), (12, .ref v12), (13, .int v13), (14, .int v14), (15, .int v15), (16, .int v16), (17, .ref v17), (18, .ref v18), (19, .int v19)] → cells + (n9_670 * 127 + n9_747 * 2 + 30) ≤ 668972 → slots + (n9_670 * 662 + n9_747 * 10 + 180) ≤ 7086985 → W p l e room_1 s m args below meth c H locs cells slots Q (F0 m 747 ls [])) {k1201 : Hp → Nat → Int32 → Nat → Nat → Nat → Nat → Nat → Nat → Nat → Nat → Nat → Nat → Int32 → Int32 → Int32 → Int32 → Nat → Nat → Int32 → Nat → Nat → Int32 → Prop} (hk1201 : ∀ (S : Hp) (v1 : Nat) (v2 : Int32) (v3 : Nat) (v4 : Nat) (v5 : Nat) (v6 : Nat) (v7 : Nat) (v8 : Nat) (v9 : Nat) (v10 : Nat) (v11 : Nat) (v12 : Nat) (v13 : Int32) (v14 : Int32) (v15 : Int32) (v16 : Int32) (v17 : Nat) (v18 : Nat) (v19 : Int32) (v20 : Nat) (v21 : Nat) (v28 : Int32) (H : Heap) (locs : List Loc) (ls : Array Slot) (cells slots : Nat), k1201 S v1 v2 v3 v4 v5 v6 v7 v8 v9 v10 v11 v12 v13 v14 v15 v16 v17 v18 v19 v20 v21 v28 → Ok G S H → va_S (Ab G.b) s.heap H locs → lv_has ls 37 [(0, .ref G.xb), (1, .ref v1), (2, .int v2), (3, .ref v3), (4, .ref v4), (5, .ref v5), (6, .ref v6), (7, .ref v7), (8, .ref v8), (9, .ref v9), (10, .ref v10), (11, .ref v11), (12, .ref v12), (13, .int v13), (14, .int v14), (15, .int v15), (16, .int v16), (17, .ref v17), (18, .ref v18), (19, .int v19), (20, .ref v20), (21, .ref v21), (28, .int v28)] → cells + (n9_670 * 127 + n9_747 * 2 + 30) ≤ 668972 → slots + (n9_670 * 662 + n9_747 * 10 + 180) ≤ 7086985 → W p l e room_1 s m args below meth c H locs cells slots Q (F0 m 1201 ls [])) : ∀ (S : Hp) (v1 : Nat) (v2 : Int32) (v3 : Nat) (v4 : Nat) (v5 : Nat) (v6 : Nat) (v7 : Nat) (v8 : Nat) (v9 : Nat) (v10 : Nat) (v11 : Nat) (v12 : Nat) (v13 : Int32) (v14 : Int32) (v15 : Int32) (v16 : Int32) (v17 : Nat) (v18 : Nat) (v19 : Int32) (v20 : Nat) (v21 : Nat) (v28 : Int32) (v29 : Int32) (v30 : Int32) (z0 : Int64) (H : Heap) (locs : List Loc) (ls : Array Slot) (cells slots : Nat), wL_law_b1262 G.xs G.xl k670 k747 k1201 S v1 v2 v3 v4 v5 v6 v7 v8 v9 v10 v11 v12 v13 v14 v15 v16 v17 v18 v19 v20 v21 v28 v29 v30 z0 → Ok G S H → va_S (Ab G.b) s.heap H locs → lv_has ls 37 [(0, .ref G.xb), (1, .ref v1), (2, .int v2), (3, .ref v3), (4, .ref v4), (5, .ref v5), (6, .ref v6), (7, .ref v7), (8, .ref v8), (9, .ref v9), (10, .ref v10), (11, .ref v11), (12, .ref v12), (13, .int v13), (14, .int v14), (15, .int v15), (16, .int v16), (17, .ref v17), (18, .ref v18), (19, .int v19), (20, .ref v20), (21, .ref v21), (28, .int v28), (29, .int v29), (30, .int v30)] → cells + (n9_670 * 127 + n9_747 * 2 + 30) ≤ 668972 → slots + (n9_670 * 662 + n9_747 * 10 + 180) ≤ 7086985 → W p l e room_1 s m args below meth c H locs cells slots Q (F0 m 1262 ls [.long z0]) := by
  intro S v1 v2 v3 v4 v5 v6 v7 v8 v9 v10 v11 v12 v13 v14 v15 v16 v17 v18 v19 v20 v21 v28 v29 v30 z0 H locs ls cells slots h hO hS hl hcc hss
  unfold wL_law_b1262 at h
  refine lv_lstore C0.1 C0.2.1 dL_law_1262 hl (by decide) rfl (fun ls hl => ?_)
  refine lv_aload C0.1 C0.2.1 dL_law_1264 (lv_at hl 11 rfl) ?_
  refine lv_iload C0.1 C0.2.1 dL_law_1266 (lv_at hl 24 rfl) ?_
  obtain ⟨i1, h⟩ := h
  obtain ⟨e2, h⟩ := h
  refine r_lald C0 hO i1 e2 dL_law_1268 ?_
  refine lv_aload C0.1 C0.2.1 dL_law_1269 (lv_at hl 22 rfl) ?_
  refine lv_iload C0.1 C0.2.1 dL_law_1271 (lv_at hl 25 rfl) ?_
  obtain ⟨i3, h⟩ := h
  obtain ⟨e4, h⟩ := h
  refine r_lald C0 hO i3 e4 dL_law_1273 ?_
  refine lv_lmul C0.1 C0.2.1 dL_law_1274 ?_
  refine lv_lload C0.1 C0.2.1 dL_law_1275 (lv_at hl 0 rfl) ?_
  refine lv_aload C0.1 C0.2.1 dL_law_1277 (lv_at hl 12 rfl) ?_
  refine lv_iload C0.1 C0.2.1 dL_law_1279 (lv_at hl 24 rfl) ?_
  obtain ⟨i5, h⟩ := h
  obtain ⟨e6, h⟩ := h
  refine r_lald C0 hO i5 e6 dL_law_1281 ?_
  refine lv_lmul C0.1 C0.2.1 dL_law_1282 ?_
  refine lv_ladd C0.1 C0.2.1 dL_law_1283 ?_
  refine lv_lstore C0.1 C0.2.1 dL_law_1284 hl (by decide) rfl (fun ls hl => ?_)
  refine lv_aload C0.1 C0.2.1 dL_law_1286 (lv_at hl 13 rfl) ?_
  refine lv_iload C0.1 C0.2.1 dL_law_1288 (lv_at hl 25 rfl) ?_
  obtain ⟨e7, h⟩ := h
  refine r_lald C0 hO i5 e7 dL_law_1290 ?_
  refine lv_aload C0.1 C0.2.1 dL_law_1291 (lv_at hl 23 rfl) ?_
  refine lv_iload C0.1 C0.2.1 dL_law_1293 (lv_at hl 26 rfl) ?_
  obtain ⟨e8, h⟩ := h
  refine r_lald C0 hO i3 e8 dL_law_1295 ?_
  refine lv_lmul C0.1 C0.2.1 dL_law_1296 ?_
  refine lv_lstore C0.1 C0.2.1 dL_law_1297 hl (by decide) rfl (fun ls hl => ?_)
  refine lv_aload C0.1 C0.2.1 dL_law_1299 (lv_at hl 13 rfl) ?_
  refine lv_iload C0.1 C0.2.1 dL_law_1301 (lv_at hl 26 rfl) ?_
  refine lv_lload C0.1 C0.2.1 dL_law_1303 (lv_at hl 1 rfl) ?_
  refine lv_lload C0.1 C0.2.1 dL_law_1305 (lv_at hl 1 rfl) ?_
  refine lv_lload C0.1 C0.2.1 dL_law_1307 (lv_at hl 0 rfl) ?_
  refine c_S C0 hO hS (mL_common 90 h) tb_852 tb_853 tb_26 tb_854 hd_L_common rfl ⟨⟨by decide, by decide⟩, by show _ + 0 ≤ 668972; omega, by show _ + 0 ≤ 7086985; omega⟩ hl.1 rfl (Nat.le_of_ble_eq_true rfl) dL_law_1309 (kJ (fun r10 S9 H locs h hO hS => ?_))
  change W _ _ _ _ _ _ _ _ _ _ _ _ (_ + 0) (_ + 0) _ _
  obtain ⟨e11, h⟩ := h
  refine lv_ldiv C0.1 C0.2.1 dL_law_1312 e11 ?_
  obtain ⟨i12, h⟩ := h
  obtain ⟨e13, h⟩ := h
  refine r_last C0 hO hS i12 e13 dL_law_1313 (fun H locs hO hS => ?_)
  replace h := h _ rfl
  refine lv_aload C0.1 C0.2.1 dL_law_1314 (lv_at hl 14 rfl) ?_
  refine lv_iload C0.1 C0.2.1 dL_law_1316 (lv_at hl 26 rfl) ?_
  refine lv_lload C0.1 C0.2.1 dL_law_1318 (lv_at hl 0 rfl) ?_
  refine lv_lload C0.1 C0.2.1 dL_law_1320 (lv_at hl 1 rfl) ?_
  refine lv_lload C0.1 C0.2.1 dL_law_1322 (lv_at hl 0 rfl) ?_
  refine c_S C0 hO hS (mL_common 90 h) tb_852 tb_853 tb_26 tb_854 hd_L_common rfl ⟨⟨by decide, by decide⟩, by show _ + 0 ≤ 668972; omega, by show _ + 0 ≤ 7086985; omega⟩ hl.1 rfl (Nat.le_of_ble_eq_true rfl) dL_law_1324 (kJ (fun r16 S15 H locs h hO hS => ?_))
  change W _ _ _ _ _ _ _ _ _ _ _ _ (_ + 0) (_ + 0) _ _
  obtain ⟨e17, h⟩ := h
  refine lv_ldiv C0.1 C0.2.1 dL_law_1327 e17 ?_
  obtain ⟨i18, h⟩ := h
  obtain ⟨e19, h⟩ := h
  refine r_last C0 hO hS i18 e19 dL_law_1328 (fun H locs hO hS => ?_)
  replace h := h _ rfl
  refine lv_iinc (v := _ + 1) C0.1 C0.2.1 dL_law_1329 hl (k := 25) rfl rfl (by decide) rfl (fun ls hl => ?_)
  refine lv_goto (tgt := 1201) C0.1 C0.2.1 dL_law_1332 (by decide) ?_
  exact hk1201 _ _ _ _ _ _ _ _ _ _ _ _ _ _ _ _ _ _ _ _ _ _ _ _ _ _ _ _ h hO hS (lv_sub hl [4, 5, 6, 7, 8, 9, 10, 11, 12, 13, 14, 15, 16, 17, 18, 19, 20, 21, 22, 23, 24, 25, 0] rfl) (by clear h; omega) (by clear h; omega)
def wL_law_b1236 (x0 : (Nat → Int32)) (L9 : Nat) (k670 : Hp → Nat → Int32 → Nat → Nat → Nat → Nat → Nat → Nat → Nat → Nat → Nat → Nat → Int32 → Prop) (k747 : Hp → Nat → Int32 → Nat → Nat → Nat → Nat → Nat → Nat → Nat → Nat → Nat → Nat → Int32 → Int32 → Int32 → Int32 → Nat → Nat → Int32 → Prop) (k1201 : Hp → Nat → Int32 → Nat → Nat → Nat → Nat → Nat → Nat → Nat → Nat → Nat → Nat → Int32 → Int32 → Int32 → Int32 → Nat → Nat → Int32 → Nat → Nat → Int32 → Prop) (S : Hp) (v1 : Nat) (v2 : Int32) (v3 : Nat) (v4 : Nat) (v5 : Nat) (v6 : Nat) (v7 : Nat) (v8 : Nat) (v9 : Nat) (v10 : Nat) (v11 : Nat) (v12 : Nat) (v13 : Int32) (v14 : Int32) (v15 : Int32) (v16 : Int32) (v17 : Nat) (v18 : Nat) (v19 : Int32) (v20 : Nat) (v21 : Nat) (v28 : Int32) (v29 : Int32) (z0 : Int32) : Prop := isA S v20 22 ∧ vp_in z0 (S.N v20) ∧ ((0 ≤ (lg_cmp (S.AJ v20 z0.toNatClampNeg) 0) → vp_in z0 (S.N v20) ∧ wL_law_b1262 x0 L9 k670 k747 k1201 S v1 v2 v3 v4 v5 v6 v7 v8 v9 v10 v11 v12 v13 v14 v15 v16 v17 v18 v19 v20 v21 v28 v29 z0 (S.AJ v20 z0.toNatClampNeg)) ∧ (¬ (0 ≤ (lg_cmp (S.AJ v20 z0.toNatClampNeg) 0)) → vp_in z0 (S.N v20) ∧ wL_law_b1262 x0 L9 k670 k747 k1201 S v1 v2 v3 v4 v5 v6 v7 v8 v9 v10 v11 v12 v13 v14 v15 v16 v17 v18 v19 v20 v21 v28 v29 z0 (-(S.AJ v20 z0.toNatClampNeg))))
set_option maxHeartbeats 4000000 in
set_option maxRecDepth 100000 in
theorem bL_law_b1236 {p : Program} {l : Launch} {e : Env} {s : State} {m : MethodId} {args : Array Value} {below : List Frame} {meth : Method} {c : Code} {G : Gw} {Q : State → Prop}  (C0 : Mx p s m c code 37 args yL_law.cls G) (Y : My meth (some .boolean)) (hl9 : l.stackTraces = false) (hend9 : ∀ (pc : Nat) (H : Heap) (locs : List Loc) (ls : Array Slot) (cells slots : Nat), decode code pc = .ok (.ireturn, 1) → va_S (Ab G.b) s.heap H locs → cells ≤ 668972 → slots ≤ 7086985 → W p l e room_1 s m args below meth c H locs cells slots Q (F0 m pc ls [.int 1])) {n9_670 : Nat} {n9_747 : Nat} {k670 : Hp → Nat → Int32 → Nat → Nat → Nat → Nat → Nat → Nat → Nat → Nat → Nat → Nat → Int32 → Prop} (hk670 : ∀ (S : Hp) (v1 : Nat) (v2 : Int32) (v3 : Nat) (v4 : Nat) (v5 : Nat) (v6 : Nat) (v7 : Nat) (v8 : Nat) (v9 : Nat) (v10 : Nat) (v11 : Nat) (v12 : Nat) (v13 : Int32) (H : Heap) (locs : List Loc) (ls : Array Slot) (cells slots : Nat), k670 S v1 v2 v3 v4 v5 v6 v7 v8 v9 v10 v11 v12 v13 → Ok G S H → va_S (Ab G.b) s.heap H locs → lv_has ls 37 [(0, .ref G.xb), (1, .ref v1), (2, .int v2), (3, .ref v3), (4, .ref v4), (5, .ref v5), (6, .ref v6), (7, .ref v7), (8, .ref v8), (9, .ref v9), (10, .ref v10), (11, .ref v11), (12, .ref v12), (13, .int v13)] → cells + (n9_670 * 127 + 3) ≤ 668972 → slots + (n9_670 * 662 + 18) ≤ 7086985 → W p l e room_1 s m args below meth c H locs cells slots Q (F0 m 670 ls [])) {k747 : Hp → Nat → Int32 → Nat → Nat → Nat → Nat → Nat → Nat → Nat → Nat → Nat → Nat → Int32 → Int32 → Int32 → Int32 → Nat → Nat → Int32 → Prop} (hk747 : ∀ (S : Hp) (v1 : Nat) (v2 : Int32) (v3 : Nat) (v4 : Nat) (v5 : Nat) (v6 : Nat) (v7 : Nat) (v8 : Nat) (v9 : Nat) (v10 : Nat) (v11 : Nat) (v12 : Nat) (v13 : Int32) (v14 : Int32) (v15 : Int32) (v16 : Int32) (v17 : Nat) (v18 : Nat) (v19 : Int32) (H : Heap) (locs : List Loc) (ls : Array Slot) (cells slots : Nat), k747 S v1 v2 v3 v4 v5 v6 v7 v8 v9 v10 v11 v12 v13 v14 v15 v16 v17 v18 v19 → Ok G S H → va_S (Ab G.b) s.heap H locs → lv_has ls 37 [(0, .ref G.xb), (1, .ref v1), (2, .int v2), (3, .ref v3), (4, .ref v4), (5, .ref v5), (6, .ref v6), (7, .ref v7), (8, .ref v8), (9, .ref v9), (10, .ref v10), (11, .ref v11), (12, .ref v12), (13, .int v13), (14, .int v14), (15, .int v15), (16, .int v16), (17, .ref v17), (18, .ref v18), (19, .int v19)] → cells + (n9_670 * 127 + n9_747 * 2 + 30) ≤ 668972 → slots + (n9_670 * 662 + n9_747 * 10 + 180) ≤ 7086985 → W p l e room_1 s m args below meth c H locs cells slots Q (F0 m 747 ls [])) {k1201 : Hp → Nat → Int32 → Nat → Nat → Nat → Nat → Nat → Nat → Nat → Nat → Nat → Nat → Int32 → Int32 → Int32 → Int32 → Nat → Nat → Int32 → Nat → Nat → Int32 → Prop} (hk1201 : ∀ (S : Hp) (v1 : Nat) (v2 : Int32) (v3 : Nat) (v4 : Nat) (v5 : Nat) (v6 : Nat) (v7 : Nat) (v8 : Nat) (v9 : Nat) (v10 : Nat) (v11 : Nat) (v12 : Nat) (v13 : Int32) (v14 : Int32) (v15 : Int32) (v16 : Int32) (v17 : Nat) (v18 : Nat) (v19 : Int32) (v20 : Nat) (v21 : Nat) (v28 : Int32) (H : Heap) (locs : List Loc) (ls : Array Slot) (cells slots : Nat), k1201 S v1 v2 v3 v4 v5 v6 v7 v8 v9 v10 v11 v12 v13 v14 v15 v16 v17 v18 v19 v20 v21 v28 → Ok G S H → va_S (Ab G.b) s.heap H locs → lv_has ls 37 [(0, .ref G.xb), (1, .ref v1), (2, .int v2), (3, .ref v3), (4, .ref v4), (5, .ref v5), (6, .ref v6), (7, .ref v7), (8, .ref v8), (9, .ref v9), (10, .ref v10), (11, .ref v11), (12, .ref v12), (13, .int v13), (14, .int v14), (15, .int v15), (16, .int v16), (17, .ref v17), (18, .ref v18), (19, .int v19), (20, .ref v20), (21, .ref v21), (28, .int v28)] → cells + (n9_670 * 127 + n9_747 * 2 + 30) ≤ 668972 → slots + (n9_670 * 662 + n9_747 * 10 + 180) ≤ 7086985 → W p l e room_1 s m args below meth c H locs cells slots Q (F0 m 1201 ls [])) : ∀ (S : Hp) (v1 : Nat) (v2 : Int32) (v3 : Nat) (v4 : Nat) (v5 : Nat) (v6 : Nat) (v7 : Nat) (v8 : Nat) (v9 : Nat) (v10 : Nat) (v11 : Nat) (v12 : Nat) (v13 : Int32) (v14 : Int32) (v15 : Int32) (v16 : Int32) (v17 : Nat) (v18 : Nat) (v19 : Int32) (v20 : Nat) (v21 : Nat) (v28 : Int32) (v29 : Int32) (z0 : Int32) (H : Heap) (locs : List Loc) (ls : Array Slot) (cells slots : Nat), wL_law_b1236 G.xs G.xl k670 k747 k1201 S v1 v2 v3 v4 v5 v6 v7 v8 v9 v10 v11 v12 v13 v14 v15 v16 v17 v18 v19 v20 v21 v28 v29 z0 → Ok G S H → va_S (Ab G.b) s.heap H locs → lv_has ls 37 [(0, .ref G.xb), (1, .ref v1), (2, .int v2), (3, .ref v3), (4, .ref v4), (5, .ref v5), (6, .ref v6), (7, .ref v7), (8, .ref v8), (9, .ref v9), (10, .ref v10), (11, .ref v11), (12, .ref v12), (13, .int v13), (14, .int v14), (15, .int v15), (16, .int v16), (17, .ref v17), (18, .ref v18), (19, .int v19), (20, .ref v20), (21, .ref v21), (28, .int v28), (29, .int v29)] → cells + (n9_670 * 127 + n9_747 * 2 + 30) ≤ 668972 → slots + (n9_670 * 662 + n9_747 * 10 + 180) ≤ 7086985 → W p l e room_1 s m args below meth c H locs cells slots Q (F0 m 1236 ls [.int z0]) := by
  intro S v1 v2 v3 v4 v5 v6 v7 v8 v9 v10 v11 v12 v13 v14 v15 v16 v17 v18 v19 v20 v21 v28 v29 z0 H locs ls cells slots h hO hS hl hcc hss
  unfold wL_law_b1236 at h
  refine lv_istore C0.1 C0.2.1 dL_law_1236 hl (by decide) rfl (fun ls hl => ?_)
  refine lv_aload C0.1 C0.2.1 dL_law_1238 (lv_at hl 21 rfl) ?_
  refine lv_iload C0.1 C0.2.1 dL_law_1240 (lv_at hl 0 rfl) ?_
  obtain ⟨i1, h⟩ := h
  obtain ⟨e2, h⟩ := h
  refine r_lald C0 hO i1 e2 dL_law_1242 ?_
  refine lv_lconst (v := 0) C0.1 C0.2.1 dL_law_1243 (by decide) ?_
  refine W.lcmp C0.1 C0.2.1 dL_law_1244 ?_
  refine lv_if_ge (tgt := 1257) C0.1 C0.2.1 dL_law_1245 (by decide) (fun c3 => ?_) (fun c3 => ?_)
  · replace h := h.1 c3
    refine lv_aload C0.1 C0.2.1 dL_law_1257 (lv_at hl 21 rfl) ?_
    refine lv_iload C0.1 C0.2.1 dL_law_1259 (lv_at hl 0 rfl) ?_
    obtain ⟨e4, h⟩ := h
    refine r_lald C0 hO i1 e4 dL_law_1261 ?_
    exact bL_law_b1262 C0 Y hl9 hend9 hk670 hk747 hk1201 _ _ _ _ _ _ _ _ _ _ _ _ _ _ _ _ _ _ _ _ _ _ _ _ _ _ _ _ _ _ _ h hO hS (lv_sub hl [1, 2, 3, 4, 5, 6, 7, 8, 9, 10, 11, 12, 13, 14, 15, 16, 17, 18, 19, 20, 21, 22, 23, 24, 0] rfl) (by clear h; omega) (by clear h; omega)
  · replace h := h.2 c3
    refine lv_aload C0.1 C0.2.1 dL_law_1248 (lv_at hl 21 rfl) ?_
    refine lv_iload C0.1 C0.2.1 dL_law_1250 (lv_at hl 0 rfl) ?_
    obtain ⟨e5, h⟩ := h
    refine r_lald C0 hO i1 e5 dL_law_1252 ?_
    refine lv_lneg C0.1 C0.2.1 dL_law_1253 ?_
    refine lv_goto (tgt := 1262) C0.1 C0.2.1 dL_law_1254 (by decide) ?_
    exact bL_law_b1262 C0 Y hl9 hend9 hk670 hk747 hk1201 _ _ _ _ _ _ _ _ _ _ _ _ _ _ _ _ _ _ _ _ _ _ _ _ _ _ _ _ _ _ _ h hO hS (lv_sub hl [1, 2, 3, 4, 5, 6, 7, 8, 9, 10, 11, 12, 13, 14, 15, 16, 17, 18, 19, 20, 21, 22, 23, 24, 0] rfl) (by clear h; omega) (by clear h; omega)
def wL_law_b1219 (x0 : (Nat → Int32)) (L9 : Nat) (k670 : Hp → Nat → Int32 → Nat → Nat → Nat → Nat → Nat → Nat → Nat → Nat → Nat → Nat → Int32 → Prop) (k747 : Hp → Nat → Int32 → Nat → Nat → Nat → Nat → Nat → Nat → Nat → Nat → Nat → Nat → Int32 → Int32 → Int32 → Int32 → Nat → Nat → Int32 → Prop) (k1201 : Hp → Nat → Int32 → Nat → Nat → Nat → Nat → Nat → Nat → Nat → Nat → Nat → Nat → Int32 → Int32 → Int32 → Int32 → Nat → Nat → Int32 → Nat → Nat → Int32 → Prop) (S : Hp) (v1 : Nat) (v2 : Int32) (v3 : Nat) (v4 : Nat) (v5 : Nat) (v6 : Nat) (v7 : Nat) (v8 : Nat) (v9 : Nat) (v10 : Nat) (v11 : Nat) (v12 : Nat) (v13 : Int32) (v14 : Int32) (v15 : Int32) (v16 : Int32) (v17 : Nat) (v18 : Nat) (v19 : Int32) (v20 : Nat) (v21 : Nat) (v28 : Int32) (z0 : Int32) : Prop := ((¬ v28 = 3 → isA S v6 21 ∧ vp_in v28 (S.N v6) ∧ wL_law_b1236 x0 L9 k670 k747 k1201 S v1 v2 v3 v4 v5 v6 v7 v8 v9 v10 v11 v12 v13 v14 v15 v16 v17 v18 v19 v20 v21 v28 z0 (S.AI v6 v28.toNatClampNeg)) ∧ (v28 = 3 → wL_law_b1236 x0 L9 k670 k747 k1201 S v1 v2 v3 v4 v5 v6 v7 v8 v9 v10 v11 v12 v13 v14 v15 v16 v17 v18 v19 v20 v21 v28 z0 3))
set_option maxHeartbeats 4000000 in
set_option maxRecDepth 100000 in
theorem bL_law_b1219 {p : Program} {l : Launch} {e : Env} {s : State} {m : MethodId} {args : Array Value} {below : List Frame} {meth : Method} {c : Code} {G : Gw} {Q : State → Prop}  (C0 : Mx p s m c code 37 args yL_law.cls G) (Y : My meth (some .boolean)) (hl9 : l.stackTraces = false) (hend9 : ∀ (pc : Nat) (H : Heap) (locs : List Loc) (ls : Array Slot) (cells slots : Nat), decode code pc = .ok (.ireturn, 1) → va_S (Ab G.b) s.heap H locs → cells ≤ 668972 → slots ≤ 7086985 → W p l e room_1 s m args below meth c H locs cells slots Q (F0 m pc ls [.int 1])) {n9_670 : Nat} {n9_747 : Nat} {k670 : Hp → Nat → Int32 → Nat → Nat → Nat → Nat → Nat → Nat → Nat → Nat → Nat → Nat → Int32 → Prop} (hk670 : ∀ (S : Hp) (v1 : Nat) (v2 : Int32) (v3 : Nat) (v4 : Nat) (v5 : Nat) (v6 : Nat) (v7 : Nat) (v8 : Nat) (v9 : Nat) (v10 : Nat) (v11 : Nat) (v12 : Nat) (v13 : Int32) (H : Heap) (locs : List Loc) (ls : Array Slot) (cells slots : Nat), k670 S v1 v2 v3 v4 v5 v6 v7 v8 v9 v10 v11 v12 v13 → Ok G S H → va_S (Ab G.b) s.heap H locs → lv_has ls 37 [(0, .ref G.xb), (1, .ref v1), (2, .int v2), (3, .ref v3), (4, .ref v4), (5, .ref v5), (6, .ref v6), (7, .ref v7), (8, .ref v8), (9, .ref v9), (10, .ref v10), (11, .ref v11), (12, .ref v12), (13, .int v13)] → cells + (n9_670 * 127 + 3) ≤ 668972 → slots + (n9_670 * 662 + 18) ≤ 7086985 → W p l e room_1 s m args below meth c H locs cells slots Q (F0 m 670 ls [])) {k747 : Hp → Nat → Int32 → Nat → Nat → Nat → Nat → Nat → Nat → Nat → Nat → Nat → Nat → Int32 → Int32 → Int32 → Int32 → Nat → Nat → Int32 → Prop} (hk747 : ∀ (S : Hp) (v1 : Nat) (v2 : Int32) (v3 : Nat) (v4 : Nat) (v5 : Nat) (v6 : Nat) (v7 : Nat) (v8 : Nat) (v9 : Nat) (v10 : Nat) (v11 : Nat) (v12 : Nat) (v13 : Int32) (v14 : Int32) (v15 : Int32) (v16 : Int32) (v17 : Nat) (v18 : Nat) (v19 : Int32) (H : Heap) (locs : List Loc) (ls : Array Slot) (cells slots : Nat), k747 S v1 v2 v3 v4 v5 v6 v7 v8 v9 v10 v11 v12 v13 v14 v15 v16 v17 v18 v19 → Ok G S H → va_S (Ab G.b) s.heap H locs → lv_has ls 37 [(0, .ref G.xb), (1, .ref v1), (2, .int v2), (3, .ref v3), (4, .ref v4), (5, .ref v5), (6, .ref v6), (7, .ref v7), (8, .ref v8), (9, .ref v9), (10, .ref v10), (11, .ref v11), (12, .ref v12), (13, .int v13), (14, .int v14), (15, .int v15), (16, .int v16), (17, .ref v17), (18, .ref v18), (19, .int v19)] → cells + (n9_670 * 127 + n9_747 * 2 + 30) ≤ 668972 → slots + (n9_670 * 662 + n9_747 * 10 + 180) ≤ 7086985 → W p l e room_1 s m args below meth c H locs cells slots Q (F0 m 747 ls [])) {k1201 : Hp → Nat → Int32 → Nat → Nat → Nat → Nat → Nat → Nat → Nat → Nat → Nat → Nat → Int32 → Int32 → Int32 → Int32 → Nat → Nat → Int32 → Nat → Nat → Int32 → Prop} (hk1201 : ∀ (S : Hp) (v1 : Nat) (v2 : Int32) (v3 : Nat) (v4 : Nat) (v5 : Nat) (v6 : Nat) (v7 : Nat) (v8 : Nat) (v9 : Nat) (v10 : Nat) (v11 : Nat) (v12 : Nat) (v13 : Int32) (v14 : Int32) (v15 : Int32) (v16 : Int32) (v17 : Nat) (v18 : Nat) (v19 : Int32) (v20 : Nat) (v21 : Nat) (v28 : Int32) (H : Heap) (locs : List Loc) (ls : Array Slot) (cells slots : Nat), k1201 S v1 v2 v3 v4 v5 v6 v7 v8 v9 v10 v11 v12 v13 v14 v15 v16 v17 v18 v19 v20 v21 v28 → Ok G S H → va_S (Ab G.b) s.heap H locs → lv_has ls 37 [(0, .ref G.xb), (1, .ref v1), (2, .int v2), (3, .ref v3), (4, .ref v4), (5, .ref v5), (6, .ref v6), (7, .ref v7), (8, .ref v8), (9, .ref v9), (10, .ref v10), (11, .ref v11), (12, .ref v12), (13, .int v13), (14, .int v14), (15, .int v15), (16, .int v16), (17, .ref v17), (18, .ref v18), (19, .int v19), (20, .ref v20), (21, .ref v21), (28, .int v28)] → cells + (n9_670 * 127 + n9_747 * 2 + 30) ≤ 668972 → slots + (n9_670 * 662 + n9_747 * 10 + 180) ≤ 7086985 → W p l e room_1 s m args below meth c H locs cells slots Q (F0 m 1201 ls [])) : ∀ (S : Hp) (v1 : Nat) (v2 : Int32) (v3 : Nat) (v4 : Nat) (v5 : Nat) (v6 : Nat) (v7 : Nat) (v8 : Nat) (v9 : Nat) (v10 : Nat) (v11 : Nat) (v12 : Nat) (v13 : Int32) (v14 : Int32) (v15 : Int32) (v16 : Int32) (v17 : Nat) (v18 : Nat) (v19 : Int32) (v20 : Nat) (v21 : Nat) (v28 : Int32) (z0 : Int32) (H : Heap) (locs : List Loc) (ls : Array Slot) (cells slots : Nat), wL_law_b1219 G.xs G.xl k670 k747 k1201 S v1 v2 v3 v4 v5 v6 v7 v8 v9 v10 v11 v12 v13 v14 v15 v16 v17 v18 v19 v20 v21 v28 z0 → Ok G S H → va_S (Ab G.b) s.heap H locs → lv_has ls 37 [(0, .ref G.xb), (1, .ref v1), (2, .int v2), (3, .ref v3), (4, .ref v4), (5, .ref v5), (6, .ref v6), (7, .ref v7), (8, .ref v8), (9, .ref v9), (10, .ref v10), (11, .ref v11), (12, .ref v12), (13, .int v13), (14, .int v14), (15, .int v15), (16, .int v16), (17, .ref v17), (18, .ref v18), (19, .int v19), (20, .ref v20), (21, .ref v21), (28, .int v28)] → cells + (n9_670 * 127 + n9_747 * 2 + 30) ≤ 668972 → slots + (n9_670 * 662 + n9_747 * 10 + 180) ≤ 7086985 → W p l e room_1 s m args below meth c H locs cells slots Q (F0 m 1219 ls [.int z0]) := by
  intro S v1 v2 v3 v4 v5 v6 v7 v8 v9 v10 v11 v12 v13 v14 v15 v16 v17 v18 v19 v20 v21 v28 z0 H locs ls cells slots h hO hS hl hcc hss
  unfold wL_law_b1219 at h
  refine lv_istore C0.1 C0.2.1 dL_law_1219 hl (by decide) rfl (fun ls hl => ?_)
  refine lv_iload C0.1 C0.2.1 dL_law_1221 (lv_at hl 23 rfl) ?_
  refine lv_iconst (v := 3) C0.1 C0.2.1 dL_law_1223 (by decide) ?_
  refine lv_icmp_ne (tgt := 1231) C0.1 C0.2.1 dL_law_1224 (by decide) (fun c1 => ?_) (fun c1 => ?_)
  · replace h := h.1 c1
    refine lv_aload C0.1 C0.2.1 dL_law_1231 (lv_at hl 7 rfl) ?_
    refine lv_iload C0.1 C0.2.1 dL_law_1233 (lv_at hl 23 rfl) ?_
    obtain ⟨i2, h⟩ := h
    obtain ⟨e3, h⟩ := h
    refine r_iald C0 hO i2 e3 dL_law_1235 ?_
    exact bL_law_b1236 C0 Y hl9 hend9 hk670 hk747 hk1201 _ _ _ _ _ _ _ _ _ _ _ _ _ _ _ _ _ _ _ _ _ _ _ _ _ _ _ _ _ _ h hO hS (lv_sub hl [1, 2, 3, 4, 5, 6, 7, 8, 9, 10, 11, 12, 13, 14, 15, 16, 17, 18, 19, 20, 21, 22, 23, 0] rfl) (by clear h; omega) (by clear h; omega)
  · replace h := h.2 c1
    refine lv_iconst (v := 3) C0.1 C0.2.1 dL_law_1227 (by decide) ?_
    refine lv_goto (tgt := 1236) C0.1 C0.2.1 dL_law_1228 (by decide) ?_
    exact bL_law_b1236 C0 Y hl9 hend9 hk670 hk747 hk1201 _ _ _ _ _ _ _ _ _ _ _ _ _ _ _ _ _ _ _ _ _ _ _ _ _ _ _ _ _ _ h hO hS (lv_sub hl [1, 2, 3, 4, 5, 6, 7, 8, 9, 10, 11, 12, 13, 14, 15, 16, 17, 18, 19, 20, 21, 22, 23, 0] rfl) (by clear h; omega) (by clear h; omega)
def wL_law_b1338 (x0 : (Nat → Int32)) (L9 : Nat) (k670 : Hp → Nat → Int32 → Nat → Nat → Nat → Nat → Nat → Nat → Nat → Nat → Nat → Nat → Int32 → Prop) (k747 : Hp → Nat → Int32 → Nat → Nat → Nat → Nat → Nat → Nat → Nat → Nat → Nat → Nat → Int32 → Int32 → Int32 → Int32 → Nat → Nat → Int32 → Prop) (k1338 : Hp → Nat → Int32 → Nat → Nat → Nat → Nat → Nat → Nat → Nat → Nat → Nat → Nat → Int32 → Int32 → Int32 → Int32 → Nat → Nat → Int32 → Nat → Nat → Int32 → Prop) (S : Hp) (v1 : Nat) (v2 : Int32) (v3 : Nat) (v4 : Nat) (v5 : Nat) (v6 : Nat) (v7 : Nat) (v8 : Nat) (v9 : Nat) (v10 : Nat) (v11 : Nat) (v12 : Nat) (v13 : Int32) (v14 : Int32) (v15 : Int32) (v16 : Int32) (v17 : Nat) (v18 : Nat) (v19 : Int32) (v20 : Nat) (v21 : Nat) (v28 : Int32) : Prop := ((5 ≤ v28 → k747 S v1 v2 v3 v4 v5 v6 v7 v8 v9 v10 v11 v12 v13 v14 v15 v16 v17 v18 (v19 + 1)) ∧ (¬ (5 ≤ v28) → isA S v8 22 ∧ vp_in v28 (S.N v8) ∧ isA S v21 22 ∧ vp_in v28 (S.N v21) ∧ isA S v20 22 ∧ vp_in v28 (S.N v20) ∧ isA S v9 22 ∧ vp_in v28 (S.N v9) ∧ vp_in v28 (S.N v9) ∧ vp_in v28 (S.N v21) ∧ wL_common 90 S (((S.AJ v8 v28.toNatClampNeg) * (S.AJ v21 v28.toNatClampNeg)) + ((S.AJ v20 v28.toNatClampNeg) * (S.AJ v9 v28.toNatClampNeg))) ((S.AJ v9 v28.toNatClampNeg) * (S.AJ v21 v28.toNatClampNeg)) (fun S12 r13 => ¬ r13 = 0 ∧ isA S12 v8 22 ∧ vp_in v28 (S12.N v8) ∧ ∀ S17, S17 = S12.setAJ v8 v28.toNatClampNeg ((((S.AJ v8 v28.toNatClampNeg) * (S.AJ v21 v28.toNatClampNeg)) + ((S.AJ v20 v28.toNatClampNeg) * (S.AJ v9 v28.toNatClampNeg))) / r13) → wL_common 90 S17 (((S.AJ v8 v28.toNatClampNeg) * (S.AJ v21 v28.toNatClampNeg)) + ((S.AJ v20 v28.toNatClampNeg) * (S.AJ v9 v28.toNatClampNeg))) ((S.AJ v9 v28.toNatClampNeg) * (S.AJ v21 v28.toNatClampNeg)) (fun S18 r19 => ¬ r19 = 0 ∧ isA S18 v9 22 ∧ vp_in v28 (S18.N v9) ∧ ∀ S23, S23 = S18.setAJ v9 v28.toNatClampNeg (((S.AJ v9 v28.toNatClampNeg) * (S.AJ v21 v28.toNatClampNeg)) / r19) → k1338 S23 v1 v2 v3 v4 v5 v6 v7 v8 v9 v10 v11 v12 v13 v14 v15 v16 v17 v18 v19 v20 v21 (v28 + 1)))))
set_option maxHeartbeats 4000000 in
set_option maxRecDepth 100000 in
theorem bL_law_b1338 {p : Program} {l : Launch} {e : Env} {s : State} {m : MethodId} {args : Array Value} {below : List Frame} {meth : Method} {c : Code} {G : Gw} {Q : State → Prop}  (C0 : Mx p s m c code 37 args yL_law.cls G) (Y : My meth (some .boolean)) (hl9 : l.stackTraces = false) (hend9 : ∀ (pc : Nat) (H : Heap) (locs : List Loc) (ls : Array Slot) (cells slots : Nat), decode code pc = .ok (.ireturn, 1) → va_S (Ab G.b) s.heap H locs → cells ≤ 668972 → slots ≤ 7086985 → W p l e room_1 s m args below meth c H locs cells slots Q (F0 m pc ls [.int 1])) {n9_670 : Nat} {n9_747 : Nat} {k670 : Hp → Nat → Int32 → Nat → Nat → Nat → Nat → Nat → Nat → Nat → Nat → Nat → Nat → Int32 → Prop} (hk670 : ∀ (S : Hp) (v1 : Nat) (v2 : Int32) (v3 : Nat) (v4 : Nat) (v5 : Nat) (v6 : Nat) (v7 : Nat) (v8 : Nat) (v9 : Nat) (v10 : Nat) (v11 : Nat) (v12 : Nat) (v13 : Int32) (H : Heap) (locs : List Loc) (ls : Array Slot) (cells slots : Nat), k670 S v1 v2 v3 v4 v5 v6 v7 v8 v9 v10 v11 v12 v13 → Ok G S H → va_S (Ab G.b) s.heap H locs → lv_has ls 37 [(0, .ref G.xb), (1, .ref v1), (2, .int v2), (3, .ref v3), (4, .ref v4), (5, .ref v5), (6, .ref v6), (7, .ref v7), (8, .ref v8), (9, .ref v9), (10, .ref v10), (11, .ref v11), (12, .ref v12), (13, .int v13)] → cells + (n9_670 * 127 + 3) ≤ 668972 → slots + (n9_670 * 662 + 18) ≤ 7086985 → W p l e room_1 s m args below meth c H locs cells slots Q (F0 m 670 ls [])) {k747 : Hp → Nat → Int32 → Nat → Nat → Nat → Nat → Nat → Nat → Nat → Nat → Nat → Nat → Int32 → Int32 → Int32 → Int32 → Nat → Nat → Int32 → Prop} (hk747 : ∀ (S : Hp) (v1 : Nat) (v2 : Int32) (v3 : Nat) (v4 : Nat) (v5 : Nat) (v6 : Nat) (v7 : Nat) (v8 : Nat) (v9 : Nat) (v10 : Nat) (v11 : Nat) (v12 : Nat) (v13 : Int32) (v14 : Int32) (v15 : Int32) (v16 : Int32) (v17 : Nat) (v18 : Nat) (v19 : Int32) (H : Heap) (locs : List Loc) (ls : Array Slot) (cells slots : Nat), k747 S v1 v2 v3 v4 v5 v6 v7 v8 v9 v10 v11 v12 v13 v14 v15 v16 v17 v18 v19 → Ok G S H → va_S (Ab G.b) s.heap H locs → lv_has ls 37 [(0, .ref G.xb), (1, .ref v1), (2, .int v2), (3, .ref v3), (4, .ref v4), (5, .ref v5), (6, .ref v6), (7, .ref v7), (8, .ref v8), (9, .ref v9), (10, .ref v10), (11, .ref v11), (12, .ref v12), (13, .int v13), (14, .int v14), (15, .int v15), (16, .int v16), (17, .ref v17), (18, .ref v18), (19, .int v19)] → cells + (n9_670 * 127 + n9_747 * 2 + 30) ≤ 668972 → slots + (n9_670 * 662 + n9_747 * 10 + 180) ≤ 7086985 → W p l e room_1 s m args below meth c H locs cells slots Q (F0 m 747 ls [])) {k1338 : Hp → Nat → Int32 → Nat → Nat → Nat → Nat → Nat → Nat → Nat → Nat → Nat → Nat → Int32 → Int32 → Int32 → Int32 → Nat → Nat → Int32 → Nat → Nat → Int32 → Prop} (hk1338 : ∀ (S : Hp) (v1 : Nat) (v2 : Int32) (v3 : Nat) (v4 : Nat) (v5 : Nat) (v6 : Nat) (v7 : Nat) (v8 : Nat) (v9 : Nat) (v10 : Nat) (v11 : Nat) (v12 : Nat) (v13 : Int32) (v14 : Int32) (v15 : Int32) (v16 : Int32) (v17 : Nat) (v18 : Nat) (v19 : Int32) (v20 : Nat) (v21 : Nat) (v28 : Int32) (H : Heap) (locs : List Loc) (ls : Array Slot) (cells slots : Nat), k1338 S v1 v2 v3 v4 v5 v6 v7 v8 v9 v10 v11 v12 v13 v14 v15 v16 v17 v18 v19 v20 v21 v28 → Ok G S H → va_S (Ab G.b) s.heap H locs → lv_has ls 37 [(0, .ref G.xb), (1, .ref v1), (2, .int v2), (3, .ref v3), (4, .ref v4), (5, .ref v5), (6, .ref v6), (7, .ref v7), (8, .ref v8), (9, .ref v9), (10, .ref v10), (11, .ref v11), (12, .ref v12), (13, .int v13), (14, .int v14), (15, .int v15), (16, .int v16), (17, .ref v17), (18, .ref v18), (19, .int v19), (20, .ref v20), (21, .ref v21), (28, .int v28)] → cells + (n9_670 * 127 + n9_747 * 2 + 30) ≤ 668972 → slots + (n9_670 * 662 + n9_747 * 10 + 180) ≤ 7086985 → W p l e room_1 s m args below meth c H locs cells slots Q (F0 m 1338 ls [])) : ∀ (S : Hp) (v1 : Nat) (v2 : Int32) (v3 : Nat) (v4 : Nat) (v5 : Nat) (v6 : Nat) (v7 : Nat) (v8 : Nat) (v9 : Nat) (v10 : Nat) (v11 : Nat) (v12 : Nat) (v13 : Int32) (v14 : Int32) (v15 : Int32) (v16 : Int32) (v17 : Nat) (v18 : Nat) (v19 : Int32) (v20 : Nat) (v21 : Nat) (v28 : Int32) (H : Heap) (locs : List Loc) (ls : Array Slot) (cells slots : Nat), wL_law_b1338 G.xs G.xl k670 k747 k1338 S v1 v2 v3 v4 v5 v6 v7 v8 v9 v10 v11 v12 v13 v14 v15 v16 v17 v18 v19 v20 v21 v28 → Ok G S H → va_S (Ab G.b) s.heap H locs → lv_has ls 37 [(0, .ref G.xb), (1, .ref v1), (2, .int v2), (3, .ref v3), (4, .ref v4), (5, .ref v5), (6, .ref v6), (7, .ref v7), (8, .ref v8), (9, .ref v9), (10, .ref v10), (11, .ref v11), (12, .ref v12), (13, .int v13), (14, .int v14), (15, .int v15), (16, .int v16), (17, .ref v17), (18, .ref v18), (19, .int v19), (20, .ref v20), (21, .ref v21), (28, .int v28)] → cells + (n9_670 * 127 + n9_747 * 2 + 30) ≤ 668972 → slots + (n9_670 * 662 + n9_747 * 10 + 180) ≤ 7086985 → W p l e room_1 s m args below meth c H locs cells slots Q (F0 m 1338 ls []) := by
  intro S v1 v2 v3 v4 v5 v6 v7 v8 v9 v10 v11 v12 v13 v14 v15 v16 v17 v18 v19 v20 v21 v28 H locs ls cells slots h hO hS hl hcc hss
  unfold wL_law_b1338 at h
  refine lv_iload C0.1 C0.2.1 dL_law_1338 (lv_at hl 22 rfl) ?_
  refine lv_iconst (v := 5) C0.1 C0.2.1 dL_law_1340 (by decide) ?_
  refine lv_icmp_ge (tgt := 1418) C0.1 C0.2.1 dL_law_1341 (by decide) (fun c1 => ?_) (fun c1 => ?_)
  · replace h := h.1 c1
    refine lv_iinc (v := _ + 1) C0.1 C0.2.1 dL_law_1418 hl (k := 19) rfl rfl (by decide) rfl (fun ls hl => ?_)
    refine lv_goto (tgt := 747) C0.1 C0.2.1 dL_law_1421 (by decide) ?_
    exact hk747 _ _ _ _ _ _ _ _ _ _ _ _ _ _ _ _ _ _ _ _ _ _ _ _ _ h hO hS (lv_sub hl [1, 2, 3, 4, 5, 6, 7, 8, 9, 10, 11, 12, 13, 14, 15, 16, 17, 18, 19, 0] rfl) (by clear h; omega) (by clear h; omega)
  · replace h := h.2 c1
    refine lv_aload C0.1 C0.2.1 dL_law_1344 (lv_at hl 8 rfl) ?_
    refine lv_iload C0.1 C0.2.1 dL_law_1346 (lv_at hl 22 rfl) ?_
    obtain ⟨i2, h⟩ := h
    obtain ⟨e3, h⟩ := h
    refine r_lald C0 hO i2 e3 dL_law_1348 ?_
    refine lv_aload C0.1 C0.2.1 dL_law_1349 (lv_at hl 21 rfl) ?_
    refine lv_iload C0.1 C0.2.1 dL_law_1351 (lv_at hl 22 rfl) ?_
    obtain ⟨i4, h⟩ := h
    obtain ⟨e5, h⟩ := h
    refine r_lald C0 hO i4 e5 dL_law_1353 ?_
    refine lv_lmul C0.1 C0.2.1 dL_law_1354 ?_
    refine lv_aload C0.1 C0.2.1 dL_law_1355 (lv_at hl 20 rfl) ?_
    refine lv_iload C0.1 C0.2.1 dL_law_1357 (lv_at hl 22 rfl) ?_
    obtain ⟨i6, h⟩ := h
    obtain ⟨e7, h⟩ := h
    refine r_lald C0 hO i6 e7 dL_law_1359 ?_
    refine lv_aload C0.1 C0.2.1 dL_law_1360 (lv_at hl 9 rfl) ?_
    refine lv_iload C0.1 C0.2.1 dL_law_1362 (lv_at hl 22 rfl) ?_
    obtain ⟨i8, h⟩ := h
    obtain ⟨e9, h⟩ := h
    refine r_lald C0 hO i8 e9 dL_law_1364 ?_
    refine lv_lmul C0.1 C0.2.1 dL_law_1365 ?_
    refine lv_ladd C0.1 C0.2.1 dL_law_1366 ?_
    refine lv_lstore C0.1 C0.2.1 dL_law_1367 hl (by decide) rfl (fun ls hl => ?_)
    refine lv_aload C0.1 C0.2.1 dL_law_1369 (lv_at hl 10 rfl) ?_
    refine lv_iload C0.1 C0.2.1 dL_law_1371 (lv_at hl 23 rfl) ?_
    obtain ⟨e10, h⟩ := h
    refine r_lald C0 hO i8 e10 dL_law_1373 ?_
    refine lv_aload C0.1 C0.2.1 dL_law_1374 (lv_at hl 22 rfl) ?_
    refine lv_iload C0.1 C0.2.1 dL_law_1376 (lv_at hl 23 rfl) ?_
    obtain ⟨e11, h⟩ := h
    refine r_lald C0 hO i4 e11 dL_law_1378 ?_
    refine lv_lmul C0.1 C0.2.1 dL_law_1379 ?_
    refine lv_lstore C0.1 C0.2.1 dL_law_1380 hl (by decide) rfl (fun ls hl => ?_)
    refine lv_aload C0.1 C0.2.1 dL_law_1382 (lv_at hl 10 rfl) ?_
    refine lv_iload C0.1 C0.2.1 dL_law_1384 (lv_at hl 24 rfl) ?_
    refine lv_lload C0.1 C0.2.1 dL_law_1386 (lv_at hl 1 rfl) ?_
    refine lv_lload C0.1 C0.2.1 dL_law_1388 (lv_at hl 1 rfl) ?_
    refine lv_lload C0.1 C0.2.1 dL_law_1390 (lv_at hl 0 rfl) ?_
    refine c_S C0 hO hS (mL_common 90 h) tb_852 tb_853 tb_26 tb_854 hd_L_common rfl ⟨⟨by decide, by decide⟩, by show _ + 0 ≤ 668972; omega, by show _ + 0 ≤ 7086985; omega⟩ hl.1 rfl (Nat.le_of_ble_eq_true rfl) dL_law_1392 (kJ (fun r13 S12 H locs h hO hS => ?_))
    change W _ _ _ _ _ _ _ _ _ _ _ _ (_ + 0) (_ + 0) _ _
    obtain ⟨e14, h⟩ := h
    refine lv_ldiv C0.1 C0.2.1 dL_law_1395 e14 ?_
    obtain ⟨i15, h⟩ := h
    obtain ⟨e16, h⟩ := h
    refine r_last C0 hO hS i15 e16 dL_law_1396 (fun H locs hO hS => ?_)
    replace h := h _ rfl
    refine lv_aload C0.1 C0.2.1 dL_law_1397 (lv_at hl 11 rfl) ?_
    refine lv_iload C0.1 C0.2.1 dL_law_1399 (lv_at hl 24 rfl) ?_
    refine lv_lload C0.1 C0.2.1 dL_law_1401 (lv_at hl 0 rfl) ?_
    refine lv_lload C0.1 C0.2.1 dL_law_1403 (lv_at hl 1 rfl) ?_
    refine lv_lload C0.1 C0.2.1 dL_law_1405 (lv_at hl 0 rfl) ?_
    refine c_S C0 hO hS (mL_common 90 h) tb_852 tb_853 tb_26 tb_854 hd_L_common rfl ⟨⟨by decide, by decide⟩, by show _ + 0 ≤ 668972; omega, by show _ + 0 ≤ 7086985; omega⟩ hl.1 rfl (Nat.le_of_ble_eq_true rfl) dL_law_1407 (kJ (fun r19 S18 H locs h hO hS => ?_))
    change W _ _ _ _ _ _ _ _ _ _ _ _ (_ + 0) (_ + 0) _ _
    obtain ⟨e20, h⟩ := h
    refine lv_ldiv C0.1 C0.2.1 dL_law_1410 e20 ?_
    obtain ⟨i21, h⟩ := h
    obtain ⟨e22, h⟩ := h
    refine r_last C0 hO hS i21 e22 dL_law_1411 (fun H locs hO hS => ?_)
    replace h := h _ rfl
    refine lv_iinc (v := _ + 1) C0.1 C0.2.1 dL_law_1412 hl (k := 24) rfl rfl (by decide) rfl (fun ls hl => ?_)
    refine lv_goto (tgt := 1338) C0.1 C0.2.1 dL_law_1415 (by decide) ?_
    exact hk1338 _ _ _ _ _ _ _ _ _ _ _ _ _ _ _ _ _ _ _ _ _ _ _ _ _ _ _ _ h hO hS (lv_sub hl [3, 4, 5, 6, 7, 8, 9, 10, 11, 12, 13, 14, 15, 16, 17, 18, 19, 20, 21, 22, 23, 24, 0] rfl) (by clear h; omega) (by clear h; omega)
set_option maxHeartbeats 4000000 in
set_option maxRecDepth 100000 in
theorem lL_law_b1338 {p : Program} {l : Launch} {e : Env} {s : State} {m : MethodId} {args : Array Value} {below : List Frame} {meth : Method} {c : Code} {G : Gw} {Q : State → Prop}  (C0 : Mx p s m c code 37 args yL_law.cls G) (Y : My meth (some .boolean)) (hl9 : l.stackTraces = false) (hend9 : ∀ (pc : Nat) (H : Heap) (locs : List Loc) (ls : Array Slot) (cells slots : Nat), decode code pc = .ok (.ireturn, 1) → va_S (Ab G.b) s.heap H locs → cells ≤ 668972 → slots ≤ 7086985 → W p l e room_1 s m args below meth c H locs cells slots Q (F0 m pc ls [.int 1])) {n9_670 : Nat} {n9_747 : Nat} {k670 : Hp → Nat → Int32 → Nat → Nat → Nat → Nat → Nat → Nat → Nat → Nat → Nat → Nat → Int32 → Prop} (hk670 : ∀ (S : Hp) (v1 : Nat) (v2 : Int32) (v3 : Nat) (v4 : Nat) (v5 : Nat) (v6 : Nat) (v7 : Nat) (v8 : Nat) (v9 : Nat) (v10 : Nat) (v11 : Nat) (v12 : Nat) (v13 : Int32) (H : Heap) (locs : List Loc) (ls : Array Slot) (cells slots : Nat), k670 S v1 v2 v3 v4 v5 v6 v7 v8 v9 v10 v11 v12 v13 → Ok G S H → va_S (Ab G.b) s.heap H locs → lv_has ls 37 [(0, .ref G.xb), (1, .ref v1), (2, .int v2), (3, .ref v3), (4, .ref v4), (5, .ref v5), (6, .ref v6), (7, .ref v7), (8, .ref v8), (9, .ref v9), (10, .ref v10), (11, .ref v11), (12, .ref v12), (13, .int v13)] → cells + (n9_670 * 127 + 3) ≤ 668972 → slots + (n9_670 * 662 + 18) ≤ 7086985 → W p l e room_1 s m args below meth c H locs cells slots Q (F0 m 670 ls [])) {k747 : Hp → Nat → Int32 → Nat → Nat → Nat → Nat → Nat → Nat → Nat → Nat → Nat → Nat → Int32 → Int32 → Int32 → Int32 → Nat → Nat → Int32 → Prop} (hk747 : ∀ (S : Hp) (v1 : Nat) (v2 : Int32) (v3 : Nat) (v4 : Nat) (v5 : Nat) (v6 : Nat) (v7 : Nat) (v8 : Nat) (v9 : Nat) (v10 : Nat) (v11 : Nat) (v12 : Nat) (v13 : Int32) (v14 : Int32) (v15 : Int32) (v16 : Int32) (v17 : Nat) (v18 : Nat) (v19 : Int32) (H : Heap) (locs : List Loc) (ls : Array Slot) (cells slots : Nat), k747 S v1 v2 v3 v4 v5 v6 v7 v8 v9 v10 v11 v12 v13 v14 v15 v16 v17 v18 v19 → Ok G S H → va_S (Ab G.b) s.heap H locs → lv_has ls 37 [(0, .ref G.xb), (1, .ref v1), (2, .int v2), (3, .ref v3), (4, .ref v4), (5, .ref v5), (6, .ref v6), (7, .ref v7), (8, .ref v8), (9, .ref v9), (10, .ref v10), (11, .ref v11), (12, .ref v12), (13, .int v13), (14, .int v14), (15, .int v15), (16, .int v16), (17, .ref v17), (18, .ref v18), (19, .int v19)] → cells + (n9_670 * 127 + n9_747 * 2 + 30) ≤ 668972 → slots + (n9_670 * 662 + n9_747 * 10 + 180) ≤ 7086985 → W p l e room_1 s m args below meth c H locs cells slots Q (F0 m 747 ls [])) : ∀ n9 : Nat, ∀ (S : Hp) (v1 : Nat) (v2 : Int32) (v3 : Nat) (v4 : Nat) (v5 : Nat) (v6 : Nat) (v7 : Nat) (v8 : Nat) (v9 : Nat) (v10 : Nat) (v11 : Nat) (v12 : Nat) (v13 : Int32) (v14 : Int32) (v15 : Int32) (v16 : Int32) (v17 : Nat) (v18 : Nat) (v19 : Int32) (v20 : Nat) (v21 : Nat) (v28 : Int32) (H : Heap) (locs : List Loc) (ls : Array Slot) (cells slots : Nat), it23 (wL_law_b1338 G.xs G.xl k670 k747) n9 S v1 v2 v3 v4 v5 v6 v7 v8 v9 v10 v11 v12 v13 v14 v15 v16 v17 v18 v19 v20 v21 v28 → Ok G S H → va_S (Ab G.b) s.heap H locs → lv_has ls 37 [(0, .ref G.xb), (1, .ref v1), (2, .int v2), (3, .ref v3), (4, .ref v4), (5, .ref v5), (6, .ref v6), (7, .ref v7), (8, .ref v8), (9, .ref v9), (10, .ref v10), (11, .ref v11), (12, .ref v12), (13, .int v13), (14, .int v14), (15, .int v15), (16, .int v16), (17, .ref v17), (18, .ref v18), (19, .int v19), (20, .ref v20), (21, .ref v21), (28, .int v28)] → cells + (n9_670 * 127 + n9_747 * 2 + 30) ≤ 668972 → slots + (n9_670 * 662 + n9_747 * 10 + 180) ≤ 7086985 → W p l e room_1 s m args below meth c H locs cells slots Q (F0 m 1338 ls []) := by
  intro n9
  induction n9 with
  | zero => intro S v1 v2 v3 v4 v5 v6 v7 v8 v9 v10 v11 v12 v13 v14 v15 v16 v17 v18 v19 v20 v21 v28 H locs ls cells slots h; exact (h : False).elim
  | succ n9 ih => intro S v1 v2 v3 v4 v5 v6 v7 v8 v9 v10 v11 v12 v13 v14 v15 v16 v17 v18 v19 v20 v21 v28 H locs ls cells slots h hO hS hl hcc hss; exact bL_law_b1338 C0 Y hl9 hend9 hk670 hk747 ih S v1 v2 v3 v4 v5 v6 v7 v8 v9 v10 v11 v12 v13 v14 v15 v16 v17 v18 v19 v20 v21 v28 H locs ls cells slots h hO hS hl (by omega) (by omega)
def wL_law_b1201 (x0 : (Nat → Int32)) (L9 : Nat) (k670 : Hp → Nat → Int32 → Nat → Nat → Nat → Nat → Nat → Nat → Nat → Nat → Nat → Nat → Int32 → Prop) (k747 : Hp → Nat → Int32 → Nat → Nat → Nat → Nat → Nat → Nat → Nat → Nat → Nat → Nat → Int32 → Int32 → Int32 → Int32 → Nat → Nat → Int32 → Prop) (k1201 : Hp → Nat → Int32 → Nat → Nat → Nat → Nat → Nat → Nat → Nat → Nat → Nat → Nat → Int32 → Int32 → Int32 → Int32 → Nat → Nat → Int32 → Nat → Nat → Int32 → Prop) (S : Hp) (v1 : Nat) (v2 : Int32) (v3 : Nat) (v4 : Nat) (v5 : Nat) (v6 : Nat) (v7 : Nat) (v8 : Nat) (v9 : Nat) (v10 : Nat) (v11 : Nat) (v12 : Nat) (v13 : Int32) (v14 : Int32) (v15 : Int32) (v16 : Int32) (v17 : Nat) (v18 : Nat) (v19 : Int32) (v20 : Nat) (v21 : Nat) (v28 : Int32) : Prop := ((4 ≤ v28 → ∃ n, it23 (wL_law_b1338 x0 L9 k670 k747) n S v1 v2 v3 v4 v5 v6 v7 v8 v9 v10 v11 v12 v13 v14 v15 v16 v17 v18 v19 v20 v21 0) ∧ (¬ (4 ≤ v28) → ((¬ v28 = 3 → wL_law_b1219 x0 L9 k670 k747 k1201 S v1 v2 v3 v4 v5 v6 v7 v8 v9 v10 v11 v12 v13 v14 v15 v16 v17 v18 v19 v20 v21 v28 v28) ∧ (v28 = 3 → wL_law_b1219 x0 L9 k670 k747 k1201 S v1 v2 v3 v4 v5 v6 v7 v8 v9 v10 v11 v12 v13 v14 v15 v16 v17 v18 v19 v20 v21 v28 2))))
set_option maxHeartbeats 4000000 in
set_option maxRecDepth 100000 in
theorem bL_law_b1201 {p : Program} {l : Launch} {e : Env} {s : State} {m : MethodId} {args : Array Value} {below : List Frame} {meth : Method} {c : Code} {G : Gw} {Q : State → Prop}  (C0 : Mx p s m c code 37 args yL_law.cls G) (Y : My meth (some .boolean)) (hl9 : l.stackTraces = false) (hend9 : ∀ (pc : Nat) (H : Heap) (locs : List Loc) (ls : Array Slot) (cells slots : Nat), decode code pc = .ok (.ireturn, 1) → va_S (Ab G.b) s.heap H locs → cells ≤ 668972 → slots ≤ 7086985 → W p l e room_1 s m args below meth c H locs cells slots Q (F0 m pc ls [.int 1])) {n9_670 : Nat} {n9_747 : Nat} {k670 : Hp → Nat → Int32 → Nat → Nat → Nat → Nat → Nat → Nat → Nat → Nat → Nat → Nat → Int32 → Prop} (hk670 : ∀ (S : Hp) (v1 : Nat) (v2 : Int32) (v3 : Nat) (v4 : Nat) (v5 : Nat) (v6 : Nat) (v7 : Nat) (v8 : Nat) (v9 : Nat) (v10 : Nat) (v11 : Nat) (v12 : Nat) (v13 : Int32) (H : Heap) (locs : List Loc) (ls : Array Slot) (cells slots : Nat), k670 S v1 v2 v3 v4 v5 v6 v7 v8 v9 v10 v11 v12 v13 → Ok G S H → va_S (Ab G.b) s.heap H locs → lv_has ls 37 [(0, .ref G.xb), (1, .ref v1), (2, .int v2), (3, .ref v3), (4, .ref v4), (5, .ref v5), (6, .ref v6), (7, .ref v7), (8, .ref v8), (9, .ref v9), (10, .ref v10), (11, .ref v11), (12, .ref v12), (13, .int v13)] → cells + (n9_670 * 127 + 3) ≤ 668972 → slots + (n9_670 * 662 + 18) ≤ 7086985 → W p l e room_1 s m args below meth c H locs cells slots Q (F0 m 670 ls [])) {k747 : Hp → Nat → Int32 → Nat → Nat → Nat → Nat → Nat → Nat → Nat → Nat → Nat → Nat → Int32 → Int32 → Int32 → Int32 → Nat → Nat → Int32 → Prop} (hk747 : ∀ (S : Hp) (v1 : Nat) (v2 : Int32) (v3 : Nat) (v4 : Nat) (v5 : Nat) (v6 : Nat) (v7 : Nat) (v8 : Nat) (v9 : Nat) (v10 : Nat) (v11 : Nat) (v12 : Nat) (v13 : Int32) (v14 : Int32) (v15 : Int32) (v16 : Int32) (v17 : Nat) (v18 : Nat) (v19 : Int32) (H : Heap) (locs : List Loc) (ls : Array Slot) (cells slots : Nat), k747 S v1 v2 v3 v4 v5 v6 v7 v8 v9 v10 v11 v12 v13 v14 v15 v16 v17 v18 v19 → Ok G S H → va_S (Ab G.b) s.heap H locs → lv_has ls 37 [(0, .ref G.xb), (1, .ref v1), (2, .int v2), (3, .ref v3), (4, .ref v4), (5, .ref v5), (6, .ref v6), (7, .ref v7), (8, .ref v8), (9, .ref v9), (10, .ref v10), (11, .ref v11), (12, .ref v12), (13, .int v13), (14, .int v14), (15, .int v15), (16, .int v16), (17, .ref v17), (18, .ref v18), (19, .int v19)] → cells + (n9_670 * 127 + n9_747 * 2 + 30) ≤ 668972 → slots + (n9_670 * 662 + n9_747 * 10 + 180) ≤ 7086985 → W p l e room_1 s m args below meth c H locs cells slots Q (F0 m 747 ls [])) {k1201 : Hp → Nat → Int32 → Nat → Nat → Nat → Nat → Nat → Nat → Nat → Nat → Nat → Nat → Int32 → Int32 → Int32 → Int32 → Nat → Nat → Int32 → Nat → Nat → Int32 → Prop} (hk1201 : ∀ (S : Hp) (v1 : Nat) (v2 : Int32) (v3 : Nat) (v4 : Nat) (v5 : Nat) (v6 : Nat) (v7 : Nat) (v8 : Nat) (v9 : Nat) (v10 : Nat) (v11 : Nat) (v12 : Nat) (v13 : Int32) (v14 : Int32) (v15 : Int32) (v16 : Int32) (v17 : Nat) (v18 : Nat) (v19 : Int32) (v20 : Nat) (v21 : Nat) (v28 : Int32) (H : Heap) (locs : List Loc) (ls : Array Slot) (cells slots : Nat), k1201 S v1 v2 v3 v4 v5 v6 v7 v8 v9 v10 v11 v12 v13 v14 v15 v16 v17 v18 v19 v20 v21 v28 → Ok G S H → va_S (Ab G.b) s.heap H locs → lv_has ls 37 [(0, .ref G.xb), (1, .ref v1), (2, .int v2), (3, .ref v3), (4, .ref v4), (5, .ref v5), (6, .ref v6), (7, .ref v7), (8, .ref v8), (9, .ref v9), (10, .ref v10), (11, .ref v11), (12, .ref v12), (13, .int v13), (14, .int v14), (15, .int v15), (16, .int v16), (17, .ref v17), (18, .ref v18), (19, .int v19), (20, .ref v20), (21, .ref v21), (28, .int v28)] → cells + (n9_670 * 127 + n9_747 * 2 + 30) ≤ 668972 → slots + (n9_670 * 662 + n9_747 * 10 + 180) ≤ 7086985 → W p l e room_1 s m args below meth c H locs cells slots Q (F0 m 1201 ls [])) : ∀ (S : Hp) (v1 : Nat) (v2 : Int32) (v3 : Nat) (v4 : Nat) (v5 : Nat) (v6 : Nat) (v7 : Nat) (v8 : Nat) (v9 : Nat) (v10 : Nat) (v11 : Nat) (v12 : Nat) (v13 : Int32) (v14 : Int32) (v15 : Int32) (v16 : Int32) (v17 : Nat) (v18 : Nat) (v19 : Int32) (v20 : Nat) (v21 : Nat) (v28 : Int32) (H : Heap) (locs : List Loc) (ls : Array Slot) (cells slots : Nat), wL_law_b1201 G.xs G.xl k670 k747 k1201 S v1 v2 v3 v4 v5 v6 v7 v8 v9 v10 v11 v12 v13 v14 v15 v16 v17 v18 v19 v20 v21 v28 → Ok G S H → va_S (Ab G.b) s.heap H locs → lv_has ls 37 [(0, .ref G.xb), (1, .ref v1), (2, .int v2), (3, .ref v3), (4, .ref v4), (5, .ref v5), (6, .ref v6), (7, .ref v7), (8, .ref v8), (9, .ref v9), (10, .ref v10), (11, .ref v11), (12, .ref v12), (13, .int v13), (14, .int v14), (15, .int v15), (16, .int v16), (17, .ref v17), (18, .ref v18), (19, .int v19), (20, .ref v20), (21, .ref v21), (28, .int v28)] → cells + (n9_670 * 127 + n9_747 * 2 + 30) ≤ 668972 → slots + (n9_670 * 662 + n9_747 * 10 + 180) ≤ 7086985 → W p l e room_1 s m args below meth c H locs cells slots Q (F0 m 1201 ls []) := by
  intro S v1 v2 v3 v4 v5 v6 v7 v8 v9 v10 v11 v12 v13 v14 v15 v16 v17 v18 v19 v20 v21 v28 H locs ls cells slots h hO hS hl hcc hss
  unfold wL_law_b1201 at h
  refine lv_iload C0.1 C0.2.1 dL_law_1201 (lv_at hl 22 rfl) ?_
  refine lv_iconst (v := 4) C0.1 C0.2.1 dL_law_1203 (by decide) ?_
  refine lv_icmp_ge (tgt := 1335) C0.1 C0.2.1 dL_law_1204 (by decide) (fun c1 => ?_) (fun c1 => ?_)
  · replace h := h.1 c1
    refine lv_iconst (v := 0) C0.1 C0.2.1 dL_law_1335 (by decide) ?_
    refine lv_istore C0.1 C0.2.1 dL_law_1336 hl (by decide) rfl (fun ls hl => ?_)
    obtain ⟨n9, h⟩ := h
    exact lL_law_b1338 C0 Y hl9 hend9 hk670 hk747 n9 _ _ _ _ _ _ _ _ _ _ _ _ _ _ _ _ _ _ _ _ _ _ _ _ _ _ _ _ h hO hS (lv_sub hl [1, 2, 3, 4, 5, 6, 7, 8, 9, 10, 11, 12, 13, 14, 15, 16, 17, 18, 19, 20, 21, 22, 0] rfl) (by clear h; omega) (by clear h; omega)
  · replace h := h.2 c1
    refine lv_iload C0.1 C0.2.1 dL_law_1207 (lv_at hl 22 rfl) ?_
    refine lv_iconst (v := 3) C0.1 C0.2.1 dL_law_1209 (by decide) ?_
    refine lv_icmp_ne (tgt := 1217) C0.1 C0.2.1 dL_law_1210 (by decide) (fun c2 => ?_) (fun c2 => ?_)
    · replace h := h.1 c2
      refine lv_iload C0.1 C0.2.1 dL_law_1217 (lv_at hl 22 rfl) ?_
      exact bL_law_b1219 C0 Y hl9 hend9 hk670 hk747 hk1201 _ _ _ _ _ _ _ _ _ _ _ _ _ _ _ _ _ _ _ _ _ _ _ _ _ _ _ _ _ h hO hS (lv_sub hl [0, 1, 2, 3, 4, 5, 6, 7, 8, 9, 10, 11, 12, 13, 14, 15, 16, 17, 18, 19, 20, 21, 22] rfl) (by clear h; omega) (by clear h; omega)
    · replace h := h.2 c2
      refine lv_iconst (v := 2) C0.1 C0.2.1 dL_law_1213 (by decide) ?_
      refine lv_goto (tgt := 1219) C0.1 C0.2.1 dL_law_1214 (by decide) ?_
      exact bL_law_b1219 C0 Y hl9 hend9 hk670 hk747 hk1201 _ _ _ _ _ _ _ _ _ _ _ _ _ _ _ _ _ _ _ _ _ _ _ _ _ _ _ _ _ h hO hS (lv_sub hl [0, 1, 2, 3, 4, 5, 6, 7, 8, 9, 10, 11, 12, 13, 14, 15, 16, 17, 18, 19, 20, 21, 22] rfl) (by clear h; omega) (by clear h; omega)
set_option maxHeartbeats 4000000 in
set_option maxRecDepth 100000 in
theorem lL_law_b1201 {p : Program} {l : Launch} {e : Env} {s : State} {m : MethodId} {args : Array Value} {below : List Frame} {meth : Method} {c : Code} {G : Gw} {Q : State → Prop}  (C0 : Mx p s m c code 37 args yL_law.cls G) (Y : My meth (some .boolean)) (hl9 : l.stackTraces = false) (hend9 : ∀ (pc : Nat) (H : Heap) (locs : List Loc) (ls : Array Slot) (cells slots : Nat), decode code pc = .ok (.ireturn, 1) → va_S (Ab G.b) s.heap H locs → cells ≤ 668972 → slots ≤ 7086985 → W p l e room_1 s m args below meth c H locs cells slots Q (F0 m pc ls [.int 1])) {n9_670 : Nat} {n9_747 : Nat} {k670 : Hp → Nat → Int32 → Nat → Nat → Nat → Nat → Nat → Nat → Nat → Nat → Nat → Nat → Int32 → Prop} (hk670 : ∀ (S : Hp) (v1 : Nat) (v2 : Int32) (v3 : Nat) (v4 : Nat) (v5 : Nat) (v6 : Nat) (v7 : Nat) (v8 : Nat) (v9 : Nat) (v10 : Nat) (v11 : Nat) (v12 : Nat) (v13 : Int32) (H : Heap) (locs : List Loc) (ls : Array Slot) (cells slots : Nat), k670 S v1 v2 v3 v4 v5 v6 v7 v8 v9 v10 v11 v12 v13 → Ok G S H → va_S (Ab G.b) s.heap H locs → lv_has ls 37 [(0, .ref G.xb), (1, .ref v1), (2, .int v2), (3, .ref v3), (4, .ref v4), (5, .ref v5), (6, .ref v6), (7, .ref v7), (8, .ref v8), (9, .ref v9), (10, .ref v10), (11, .ref v11), (12, .ref v12), (13, .int v13)] → cells + (n9_670 * 127 + 3) ≤ 668972 → slots + (n9_670 * 662 + 18) ≤ 7086985 → W p l e room_1 s m args below meth c H locs cells slots Q (F0 m 670 ls [])) {k747 : Hp → Nat → Int32 → Nat → Nat → Nat → Nat → Nat → Nat → Nat → Nat → Nat → Nat → Int32 → Int32 → Int32 → Int32 → Nat → Nat → Int32 → Prop} (hk747 : ∀ (S : Hp) (v1 : Nat) (v2 : Int32) (v3 : Nat) (v4 : Nat) (v5 : Nat) (v6 : Nat) (v7 : Nat) (v8 : Nat) (v9 : Nat) (v10 : Nat) (v11 : Nat) (v12 : Nat) (v13 : Int32) (v14 : Int32) (v15 : Int32) (v16 : Int32) (v17 : Nat) (v18 : Nat) (v19 : Int32) (H : Heap) (locs : List Loc) (ls : Array Slot) (cells slots : Nat), k747 S v1 v2 v3 v4 v5 v6 v7 v8 v9 v10 v11 v12 v13 v14 v15 v16 v17 v18 v19 → Ok G S H → va_S (Ab G.b) s.heap H locs → lv_has ls 37 [(0, .ref G.xb), (1, .ref v1), (2, .int v2), (3, .ref v3), (4, .ref v4), (5, .ref v5), (6, .ref v6), (7, .ref v7), (8, .ref v8), (9, .ref v9), (10, .ref v10), (11, .ref v11), (12, .ref v12), (13, .int v13), (14, .int v14), (15, .int v15), (16, .int v16), (17, .ref v17), (18, .ref v18), (19, .int v19)] → cells + (n9_670 * 127 + n9_747 * 2 + 30) ≤ 668972 → slots + (n9_670 * 662 + n9_747 * 10 + 180) ≤ 7086985 → W p l e room_1 s m args below meth c H locs cells slots Q (F0 m 747 ls [])) : ∀ n9 : Nat, ∀ (S : Hp) (v1 : Nat) (v2 : Int32) (v3 : Nat) (v4 : Nat) (v5 : Nat) (v6 : Nat) (v7 : Nat) (v8 : Nat) (v9 : Nat) (v10 : Nat) (v11 : Nat) (v12 : Nat) (v13 : Int32) (v14 : Int32) (v15 : Int32) (v16 : Int32) (v17 : Nat) (v18 : Nat) (v19 : Int32) (v20 : Nat) (v21 : Nat) (v28 : Int32) (H : Heap) (locs : List Loc) (ls : Array Slot) (cells slots : Nat), it23 (wL_law_b1201 G.xs G.xl k670 k747) n9 S v1 v2 v3 v4 v5 v6 v7 v8 v9 v10 v11 v12 v13 v14 v15 v16 v17 v18 v19 v20 v21 v28 → Ok G S H → va_S (Ab G.b) s.heap H locs → lv_has ls 37 [(0, .ref G.xb), (1, .ref v1), (2, .int v2), (3, .ref v3), (4, .ref v4), (5, .ref v5), (6, .ref v6), (7, .ref v7), (8, .ref v8), (9, .ref v9), (10, .ref v10), (11, .ref v11), (12, .ref v12), (13, .int v13), (14, .int v14), (15, .int v15), (16, .int v16), (17, .ref v17), (18, .ref v18), (19, .int v19), (20, .ref v20), (21, .ref v21), (28, .int v28)] → cells + (n9_670 * 127 + n9_747 * 2 + 30) ≤ 668972 → slots + (n9_670 * 662 + n9_747 * 10 + 180) ≤ 7086985 → W p l e room_1 s m args below meth c H locs cells slots Q (F0 m 1201 ls []) := by
  intro n9
  induction n9 with
  | zero => intro S v1 v2 v3 v4 v5 v6 v7 v8 v9 v10 v11 v12 v13 v14 v15 v16 v17 v18 v19 v20 v21 v28 H locs ls cells slots h; exact (h : False).elim
  | succ n9 ih => intro S v1 v2 v3 v4 v5 v6 v7 v8 v9 v10 v11 v12 v13 v14 v15 v16 v17 v18 v19 v20 v21 v28 H locs ls cells slots h hO hS hl hcc hss; exact bL_law_b1201 C0 Y hl9 hend9 hk670 hk747 ih S v1 v2 v3 v4 v5 v6 v7 v8 v9 v10 v11 v12 v13 v14 v15 v16 v17 v18 v19 v20 v21 v28 H locs ls cells slots h hO hS hl (by omega) (by omega)
def wL_law_b1111 (x0 : (Nat → Int32)) (L9 : Nat) (k670 : Hp → Nat → Int32 → Nat → Nat → Nat → Nat → Nat → Nat → Nat → Nat → Nat → Nat → Int32 → Prop) (k747 : Hp → Nat → Int32 → Nat → Nat → Nat → Nat → Nat → Nat → Nat → Nat → Nat → Nat → Int32 → Int32 → Int32 → Int32 → Nat → Nat → Int32 → Prop) (S : Hp) (v1 : Nat) (v2 : Int32) (v3 : Nat) (v4 : Nat) (v5 : Nat) (v6 : Nat) (v7 : Nat) (v8 : Nat) (v9 : Nat) (v10 : Nat) (v11 : Nat) (v12 : Nat) (v13 : Int32) (v14 : Int32) (v15 : Int32) (v16 : Int32) (v17 : Nat) (v18 : Nat) (v19 : Int32) (v20 : Nat) (v21 : Nat) : Prop := isA S v4 21 ∧ vp_in 2 (S.N v4) ∧ isA S v5 21 ∧ vp_in 2 (S.N v5) ∧ isA S v20 22 ∧ vp_in 1 (S.N v20) ∧ vp_in 2 (S.N v4) ∧ isA S v21 22 ∧ vp_in 3 (S.N v21) ∧ vp_in 3 (S.N v20) ∧ vp_in 2 (S.N v5) ∧ vp_in 1 (S.N v21) ∧ vp_in 1 (S.N v21) ∧ vp_in 3 (S.N v21) ∧ wL_common 90 S ((((S.AJ v20 ((1 : Int32).toNatClampNeg)) * ((S.AI v4 ((2 : Int32).toNatClampNeg)).toInt64)) * (S.AJ v21 ((3 : Int32).toNatClampNeg))) + (((S.AJ v20 ((3 : Int32).toNatClampNeg)) * ((S.AI v5 ((2 : Int32).toNatClampNeg)).toInt64)) * (S.AJ v21 ((1 : Int32).toNatClampNeg)))) (((S.AJ v21 ((1 : Int32).toNatClampNeg)) * (S.AJ v21 ((3 : Int32).toNatClampNeg))) * (((S.AI v4 ((2 : Int32).toNatClampNeg)) + (S.AI v5 ((2 : Int32).toNatClampNeg))).toInt64)) (fun S15 r16 => ¬ r16 = 0 ∧ isA S15 v20 22 ∧ vp_in 4 (S15.N v20) ∧ ∀ S20, S20 = S15.setAJ v20 ((4 : Int32).toNatClampNeg) (((((S.AJ v20 ((1 : Int32).toNatClampNeg)) * ((S.AI v4 ((2 : Int32).toNatClampNeg)).toInt64)) * (S.AJ v21 ((3 : Int32).toNatClampNeg))) + (((S.AJ v20 ((3 : Int32).toNatClampNeg)) * ((S.AI v5 ((2 : Int32).toNatClampNeg)).toInt64)) * (S.AJ v21 ((1 : Int32).toNatClampNeg)))) / r16) → wL_common 90 S20 ((((S.AJ v20 ((1 : Int32).toNatClampNeg)) * ((S.AI v4 ((2 : Int32).toNatClampNeg)).toInt64)) * (S.AJ v21 ((3 : Int32).toNatClampNeg))) + (((S.AJ v20 ((3 : Int32).toNatClampNeg)) * ((S.AI v5 ((2 : Int32).toNatClampNeg)).toInt64)) * (S.AJ v21 ((1 : Int32).toNatClampNeg)))) (((S.AJ v21 ((1 : Int32).toNatClampNeg)) * (S.AJ v21 ((3 : Int32).toNatClampNeg))) * (((S.AI v4 ((2 : Int32).toNatClampNeg)) + (S.AI v5 ((2 : Int32).toNatClampNeg))).toInt64)) (fun S21 r22 => ¬ r22 = 0 ∧ isA S21 v21 22 ∧ vp_in 4 (S21.N v21) ∧ ∀ S26, S26 = S21.setAJ v21 ((4 : Int32).toNatClampNeg) ((((S.AJ v21 ((1 : Int32).toNatClampNeg)) * (S.AJ v21 ((3 : Int32).toNatClampNeg))) * (((S.AI v4 ((2 : Int32).toNatClampNeg)) + (S.AI v5 ((2 : Int32).toNatClampNeg))).toInt64)) / r22) → ∃ n, it23 (wL_law_b1201 x0 L9 k670 k747) n S26 v1 v2 v3 v4 v5 v6 v7 v8 v9 v10 v11 v12 v13 v14 v15 v16 v17 v18 v19 v20 v21 0))
set_option maxHeartbeats 4000000 in
set_option maxRecDepth 100000 in
theorem bL_law_b1111 {p : Program} {l : Launch} {e : Env} {s : State} {m : MethodId} {args : Array Value} {below : List Frame} {meth : Method} {c : Code} {G : Gw} {Q : State → Prop}  (C0 : Mx p s m c code 37 args yL_law.cls G) (Y : My meth (some .boolean)) (hl9 : l.stackTraces = false) (hend9 : ∀ (pc : Nat) (H : Heap) (locs : List Loc) (ls : Array Slot) (cells slots : Nat), decode code pc = .ok (.ireturn, 1) → va_S (Ab G.b) s.heap H locs → cells ≤ 668972 → slots ≤ 7086985 → W p l e room_1 s m args below meth c H locs cells slots Q (F0 m pc ls [.int 1])) {n9_670 : Nat} {n9_747 : Nat} {k670 : Hp → Nat → Int32 → Nat → Nat → Nat → Nat → Nat → Nat → Nat → Nat → Nat → Nat → Int32 → Prop} (hk670 : ∀ (S : Hp) (v1 : Nat) (v2 : Int32) (v3 : Nat) (v4 : Nat) (v5 : Nat) (v6 : Nat) (v7 : Nat) (v8 : Nat) (v9 : Nat) (v10 : Nat) (v11 : Nat) (v12 : Nat) (v13 : Int32) (H : Heap) (locs : List Loc) (ls : Array Slot) (cells slots : Nat), k670 S v1 v2 v3 v4 v5 v6 v7 v8 v9 v10 v11 v12 v13 → Ok G S H → va_S (Ab G.b) s.heap H locs → lv_has ls 37 [(0, .ref G.xb), (1, .ref v1), (2, .int v2), (3, .ref v3), (4, .ref v4), (5, .ref v5), (6, .ref v6), (7, .ref v7), (8, .ref v8), (9, .ref v9), (10, .ref v10), (11, .ref v11), (12, .ref v12), (13, .int v13)] → cells + (n9_670 * 127 + 3) ≤ 668972 → slots + (n9_670 * 662 + 18) ≤ 7086985 → W p l e room_1 s m args below meth c H locs cells slots Q (F0 m 670 ls [])) {k747 : Hp → Nat → Int32 → Nat → Nat → Nat → Nat → Nat → Nat → Nat → Nat → Nat → Nat → Int32 → Int32 → Int32 → Int32 → Nat → Nat → Int32 → Prop} (hk747 : ∀ (S : Hp) (v1 : Nat) (v2 : Int32) (v3 : Nat) (v4 : Nat) (v5 : Nat) (v6 : Nat) (v7 : Nat) (v8 : Nat) (v9 : Nat) (v10 : Nat) (v11 : Nat) (v12 : Nat) (v13 : Int32) (v14 : Int32) (v15 : Int32) (v16 : Int32) (v17 : Nat) (v18 : Nat) (v19 : Int32) (H : Heap) (locs : List Loc) (ls : Array Slot) (cells slots : Nat), k747 S v1 v2 v3 v4 v5 v6 v7 v8 v9 v10 v11 v12 v13 v14 v15 v16 v17 v18 v19 → Ok G S H → va_S (Ab G.b) s.heap H locs → lv_has ls 37 [(0, .ref G.xb), (1, .ref v1), (2, .int v2), (3, .ref v3), (4, .ref v4), (5, .ref v5), (6, .ref v6), (7, .ref v7), (8, .ref v8), (9, .ref v9), (10, .ref v10), (11, .ref v11), (12, .ref v12), (13, .int v13), (14, .int v14), (15, .int v15), (16, .int v16), (17, .ref v17), (18, .ref v18), (19, .int v19)] → cells + (n9_670 * 127 + n9_747 * 2 + 30) ≤ 668972 → slots + (n9_670 * 662 + n9_747 * 10 + 180) ≤ 7086985 → W p l e room_1 s m args below meth c H locs cells slots Q (F0 m 747 ls [])) : ∀ (S : Hp) (v1 : Nat) (v2 : Int32) (v3 : Nat) (v4 : Nat) (v5 : Nat) (v6 : Nat) (v7 : Nat) (v8 : Nat) (v9 : Nat) (v10 : Nat) (v11 : Nat) (v12 : Nat) (v13 : Int32) (v14 : Int32) (v15 : Int32) (v16 : Int32) (v17 : Nat) (v18 : Nat) (v19 : Int32) (v20 : Nat) (v21 : Nat) (H : Heap) (locs : List Loc) (ls : Array Slot) (cells slots : Nat), wL_law_b1111 G.xs G.xl k670 k747 S v1 v2 v3 v4 v5 v6 v7 v8 v9 v10 v11 v12 v13 v14 v15 v16 v17 v18 v19 v20 v21 → Ok G S H → va_S (Ab G.b) s.heap H locs → lv_has ls 37 [(0, .ref G.xb), (1, .ref v1), (2, .int v2), (3, .ref v3), (4, .ref v4), (5, .ref v5), (6, .ref v6), (7, .ref v7), (8, .ref v8), (9, .ref v9), (10, .ref v10), (11, .ref v11), (12, .ref v12), (13, .int v13), (14, .int v14), (15, .int v15), (16, .int v16), (17, .ref v17), (18, .ref v18), (19, .int v19), (20, .ref v20), (21, .ref v21)] → cells + (n9_670 * 127 + n9_747 * 2 + 30) ≤ 668972 → slots + (n9_670 * 662 + n9_747 * 10 + 180) ≤ 7086985 → W p l e room_1 s m args below meth c H locs cells slots Q (F0 m 1111 ls []) := by
  intro S v1 v2 v3 v4 v5 v6 v7 v8 v9 v10 v11 v12 v13 v14 v15 v16 v17 v18 v19 v20 v21 H locs ls cells slots h hO hS hl hcc hss
  unfold wL_law_b1111 at h
  refine lv_aload C0.1 C0.2.1 dL_law_1111 (lv_at hl 4 rfl) ?_
  refine lv_iconst (v := 2) C0.1 C0.2.1 dL_law_1113 (by decide) ?_
  obtain ⟨i1, h⟩ := h
  obtain ⟨e2, h⟩ := h
  refine r_iald C0 hO i1 e2 dL_law_1114 ?_
  refine lv_aload C0.1 C0.2.1 dL_law_1115 (lv_at hl 5 rfl) ?_
  refine lv_iconst (v := 2) C0.1 C0.2.1 dL_law_1117 (by decide) ?_
  obtain ⟨i3, h⟩ := h
  obtain ⟨e4, h⟩ := h
  refine r_iald C0 hO i3 e4 dL_law_1118 ?_
  refine lv_iadd C0.1 C0.2.1 dL_law_1119 ?_
  refine lv_i2l C0.1 C0.2.1 dL_law_1120 rfl ?_
  refine lv_lstore C0.1 C0.2.1 dL_law_1121 hl (by decide) rfl (fun ls hl => ?_)
  refine lv_aload C0.1 C0.2.1 dL_law_1123 (lv_at hl 21 rfl) ?_
  refine lv_iconst (v := 1) C0.1 C0.2.1 dL_law_1125 (by decide) ?_
  obtain ⟨i5, h⟩ := h
  obtain ⟨e6, h⟩ := h
  refine r_lald C0 hO i5 e6 dL_law_1126 ?_
  refine lv_aload C0.1 C0.2.1 dL_law_1127 (lv_at hl 5 rfl) ?_
  refine lv_iconst (v := 2) C0.1 C0.2.1 dL_law_1129 (by decide) ?_
  obtain ⟨e7, h⟩ := h
  refine r_iald C0 hO i1 e7 dL_law_1130 ?_
  refine lv_i2l C0.1 C0.2.1 dL_law_1131 rfl ?_
  refine lv_lmul C0.1 C0.2.1 dL_law_1132 ?_
  refine lv_aload C0.1 C0.2.1 dL_law_1133 (lv_at hl 22 rfl) ?_
  refine lv_iconst (v := 3) C0.1 C0.2.1 dL_law_1135 (by decide) ?_
  obtain ⟨i8, h⟩ := h
  obtain ⟨e9, h⟩ := h
  refine r_lald C0 hO i8 e9 dL_law_1136 ?_
  refine lv_lmul C0.1 C0.2.1 dL_law_1137 ?_
  refine lv_aload C0.1 C0.2.1 dL_law_1138 (lv_at hl 21 rfl) ?_
  refine lv_iconst (v := 3) C0.1 C0.2.1 dL_law_1140 (by decide) ?_
  obtain ⟨e10, h⟩ := h
  refine r_lald C0 hO i5 e10 dL_law_1141 ?_
  refine lv_aload C0.1 C0.2.1 dL_law_1142 (lv_at hl 6 rfl) ?_
  refine lv_iconst (v := 2) C0.1 C0.2.1 dL_law_1144 (by decide) ?_
  obtain ⟨e11, h⟩ := h
  refine r_iald C0 hO i3 e11 dL_law_1145 ?_
  refine lv_i2l C0.1 C0.2.1 dL_law_1146 rfl ?_
  refine lv_lmul C0.1 C0.2.1 dL_law_1147 ?_
  refine lv_aload C0.1 C0.2.1 dL_law_1148 (lv_at hl 22 rfl) ?_
  refine lv_iconst (v := 1) C0.1 C0.2.1 dL_law_1150 (by decide) ?_
  obtain ⟨e12, h⟩ := h
  refine r_lald C0 hO i8 e12 dL_law_1151 ?_
  refine lv_lmul C0.1 C0.2.1 dL_law_1152 ?_
  refine lv_ladd C0.1 C0.2.1 dL_law_1153 ?_
  refine lv_lstore C0.1 C0.2.1 dL_law_1154 hl (by decide) rfl (fun ls hl => ?_)
  refine lv_aload C0.1 C0.2.1 dL_law_1156 (lv_at hl 23 rfl) ?_
  refine lv_iconst (v := 1) C0.1 C0.2.1 dL_law_1158 (by decide) ?_
  obtain ⟨e13, h⟩ := h
  refine r_lald C0 hO i8 e13 dL_law_1159 ?_
  refine lv_aload C0.1 C0.2.1 dL_law_1160 (lv_at hl 23 rfl) ?_
  refine lv_iconst (v := 3) C0.1 C0.2.1 dL_law_1162 (by decide) ?_
  obtain ⟨e14, h⟩ := h
  refine r_lald C0 hO i8 e14 dL_law_1163 ?_
  refine lv_lmul C0.1 C0.2.1 dL_law_1164 ?_
  refine lv_lload C0.1 C0.2.1 dL_law_1165 (lv_at hl 1 rfl) ?_
  refine lv_lmul C0.1 C0.2.1 dL_law_1167 ?_
  refine lv_lstore C0.1 C0.2.1 dL_law_1168 hl (by decide) rfl (fun ls hl => ?_)
  refine lv_aload C0.1 C0.2.1 dL_law_1170 (lv_at hl 23 rfl) ?_
  refine lv_iconst (v := 4) C0.1 C0.2.1 dL_law_1172 (by decide) ?_
  refine lv_lload C0.1 C0.2.1 dL_law_1173 (lv_at hl 1 rfl) ?_
  refine lv_lload C0.1 C0.2.1 dL_law_1175 (lv_at hl 1 rfl) ?_
  refine lv_lload C0.1 C0.2.1 dL_law_1177 (lv_at hl 0 rfl) ?_
  refine c_S C0 hO hS (mL_common 90 h) tb_852 tb_853 tb_26 tb_854 hd_L_common rfl ⟨⟨by decide, by decide⟩, by show _ + 0 ≤ 668972; omega, by show _ + 0 ≤ 7086985; omega⟩ hl.1 rfl (Nat.le_of_ble_eq_true rfl) dL_law_1179 (kJ (fun r16 S15 H locs h hO hS => ?_))
  change W _ _ _ _ _ _ _ _ _ _ _ _ (_ + 0) (_ + 0) _ _
  obtain ⟨e17, h⟩ := h
  refine lv_ldiv C0.1 C0.2.1 dL_law_1182 e17 ?_
  obtain ⟨i18, h⟩ := h
  obtain ⟨e19, h⟩ := h
  refine r_last C0 hO hS i18 e19 dL_law_1183 (fun H locs hO hS => ?_)
  replace h := h _ rfl
  refine lv_aload C0.1 C0.2.1 dL_law_1184 (lv_at hl 24 rfl) ?_
  refine lv_iconst (v := 4) C0.1 C0.2.1 dL_law_1186 (by decide) ?_
  refine lv_lload C0.1 C0.2.1 dL_law_1187 (lv_at hl 0 rfl) ?_
  refine lv_lload C0.1 C0.2.1 dL_law_1189 (lv_at hl 1 rfl) ?_
  refine lv_lload C0.1 C0.2.1 dL_law_1191 (lv_at hl 0 rfl) ?_
  refine c_S C0 hO hS (mL_common 90 h) tb_852 tb_853 tb_26 tb_854 hd_L_common rfl ⟨⟨by decide, by decide⟩, by show _ + 0 ≤ 668972; omega, by show _ + 0 ≤ 7086985; omega⟩ hl.1 rfl (Nat.le_of_ble_eq_true rfl) dL_law_1193 (kJ (fun r22 S21 H locs h hO hS => ?_))
  change W _ _ _ _ _ _ _ _ _ _ _ _ (_ + 0) (_ + 0) _ _
  obtain ⟨e23, h⟩ := h
  refine lv_ldiv C0.1 C0.2.1 dL_law_1196 e23 ?_
  obtain ⟨i24, h⟩ := h
  obtain ⟨e25, h⟩ := h
  refine r_last C0 hO hS i24 e25 dL_law_1197 (fun H locs hO hS => ?_)
  replace h := h _ rfl
  refine lv_iconst (v := 0) C0.1 C0.2.1 dL_law_1198 (by decide) ?_
  refine lv_istore C0.1 C0.2.1 dL_law_1199 hl (by decide) rfl (fun ls hl => ?_)
  obtain ⟨n9, h⟩ := h
  exact lL_law_b1201 C0 Y hl9 hend9 hk670 hk747 n9 _ _ _ _ _ _ _ _ _ _ _ _ _ _ _ _ _ _ _ _ _ _ _ _ _ _ _ _ h hO hS (lv_sub hl [4, 5, 6, 7, 8, 9, 10, 11, 12, 13, 14, 15, 16, 17, 18, 19, 20, 21, 22, 23, 24, 25, 0] rfl) (by clear h; omega) (by clear h; omega)
def wL_law_b806 (x0 : (Nat → Int32)) (L9 : Nat) (k670 : Hp → Nat → Int32 → Nat → Nat → Nat → Nat → Nat → Nat → Nat → Nat → Nat → Nat → Int32 → Prop) (k747 : Hp → Nat → Int32 → Nat → Nat → Nat → Nat → Nat → Nat → Nat → Nat → Nat → Nat → Int32 → Int32 → Int32 → Int32 → Nat → Nat → Int32 → Prop) (k806 : Hp → Nat → Int32 → Nat → Nat → Nat → Nat → Nat → Nat → Nat → Nat → Nat → Nat → Int32 → Int32 → Int32 → Int32 → Nat → Nat → Int32 → Nat → Nat → Int32 → Prop) (S : Hp) (v1 : Nat) (v2 : Int32) (v3 : Nat) (v4 : Nat) (v5 : Nat) (v6 : Nat) (v7 : Nat) (v8 : Nat) (v9 : Nat) (v10 : Nat) (v11 : Nat) (v12 : Nat) (v13 : Int32) (v14 : Int32) (v15 : Int32) (v16 : Int32) (v17 : Nat) (v18 : Nat) (v19 : Int32) (v20 : Nat) (v21 : Nat) (v22 : Int32) : Prop := ((2 ≤ v22 → wL_law_b1111 x0 L9 k670 k747 S v1 v2 v3 v4 v5 v6 v7 v8 v9 v10 v11 v12 v13 v14 v15 v16 v17 v18 v19 v20 v21) ∧ (¬ (2 ≤ v22) → ((¬ v14 = 0 → wL_law_b1111 x0 L9 k670 k747 S v1 v2 v3 v4 v5 v6 v7 v8 v9 v10 v11 v12 v13 v14 v15 v16 v17 v18 v19 v20 v21) ∧ (v14 = 0 → isA S v6 21 ∧ vp_in v22 (S.N v6) ∧ isA S v8 22 ∧ vp_in (S.AI v6 v22.toNatClampNeg) (S.N v8) ∧ isA S v21 22 ∧ vp_in (S.AI v6 v22.toNatClampNeg) (S.N v21) ∧ isA S v20 22 ∧ vp_in (S.AI v6 v22.toNatClampNeg) (S.N v20) ∧ isA S v9 22 ∧ vp_in (S.AI v6 v22.toNatClampNeg) (S.N v9) ∧ vp_in (S.AI v6 v22.toNatClampNeg) (S.N v9) ∧ vp_in (S.AI v6 v22.toNatClampNeg) (S.N v21) ∧ isA S v4 21 ∧ vp_in v22 (S.N v4) ∧ isA S v3 20 ∧ vp_in v22 (S.N v3) ∧ ((¬ (S.AI v3 v22.toNatClampNeg) = 103 → vp_in v22 (S.N v3) ∧ ((¬ (S.AI v3 v22.toNatClampNeg) = 105 → vp_in (S.AI v6 v22.toNatClampNeg) (S.N v20) ∧ wL_law_b916 x0 L9 k670 k747 k806 S v1 v2 v3 v4 v5 v6 v7 v8 v9 v10 v11 v12 v13 v14 v15 v16 v17 v18 v19 v20 v21 v22 (S.AI v6 v22.toNatClampNeg) (((S.AJ v8 ((S.AI v6 v22.toNatClampNeg).toNatClampNeg)) * (S.AJ v21 ((S.AI v6 v22.toNatClampNeg).toNatClampNeg))) + ((S.AJ v20 ((S.AI v6 v22.toNatClampNeg).toNatClampNeg)) * (S.AJ v9 ((S.AI v6 v22.toNatClampNeg).toNatClampNeg)))) ((S.AJ v9 ((S.AI v6 v22.toNatClampNeg).toNatClampNeg)) * (S.AJ v21 ((S.AI v6 v22.toNatClampNeg).toNatClampNeg))) ((S.AI v4 v22.toNatClampNeg).toInt64) (S.AJ v20 ((S.AI v6 v22.toNatClampNeg).toNatClampNeg))) ∧ ((S.AI v3 v22.toNatClampNeg) = 105 → vp_in (S.AI v6 v22.toNatClampNeg) (S.N v20) ∧ wL_law_b916 x0 L9 k670 k747 k806 S v1 v2 v3 v4 v5 v6 v7 v8 v9 v10 v11 v12 v13 v14 v15 v16 v17 v18 v19 v20 v21 v22 (S.AI v6 v22.toNatClampNeg) (((S.AJ v8 ((S.AI v6 v22.toNatClampNeg).toNatClampNeg)) * (S.AJ v21 ((S.AI v6 v22.toNatClampNeg).toNatClampNeg))) + ((S.AJ v20 ((S.AI v6 v22.toNatClampNeg).toNatClampNeg)) * (S.AJ v9 ((S.AI v6 v22.toNatClampNeg).toNatClampNeg)))) ((S.AJ v9 ((S.AI v6 v22.toNatClampNeg).toNatClampNeg)) * (S.AJ v21 ((S.AI v6 v22.toNatClampNeg).toNatClampNeg))) ((S.AI v4 v22.toNatClampNeg).toInt64) ((S.AJ v20 ((S.AI v6 v22.toNatClampNeg).toNatClampNeg)) * ((S.AI v4 v22.toNatClampNeg).toInt64))))) ∧ ((S.AI v3 v22.toNatClampNeg) = 103 → vp_in (S.AI v6 v22.toNatClampNeg) (S.N v20) ∧ wL_law_b916 x0 L9 k670 k747 k806 S v1 v2 v3 v4 v5 v6 v7 v8 v9 v10 v11 v12 v13 v14 v15 v16 v17 v18 v19 v20 v21 v22 (S.AI v6 v22.toNatClampNeg) (((S.AJ v8 ((S.AI v6 v22.toNatClampNeg).toNatClampNeg)) * (S.AJ v21 ((S.AI v6 v22.toNatClampNeg).toNatClampNeg))) + ((S.AJ v20 ((S.AI v6 v22.toNatClampNeg).toNatClampNeg)) * (S.AJ v9 ((S.AI v6 v22.toNatClampNeg).toNatClampNeg)))) ((S.AJ v9 ((S.AI v6 v22.toNatClampNeg).toNatClampNeg)) * (S.AJ v21 ((S.AI v6 v22.toNatClampNeg).toNatClampNeg))) ((S.AI v4 v22.toNatClampNeg).toInt64) ((-(S.AJ v20 ((S.AI v6 v22.toNatClampNeg).toNatClampNeg))) * ((S.AI v4 v22.toNatClampNeg).toInt64))))))))
set_option maxHeartbeats 4000000 in
set_option maxRecDepth 100000 in
theorem bL_law_b806 {p : Program} {l : Launch} {e : Env} {s : State} {m : MethodId} {args : Array Value} {below : List Frame} {meth : Method} {c : Code} {G : Gw} {Q : State → Prop}  (C0 : Mx p s m c code 37 args yL_law.cls G) (Y : My meth (some .boolean)) (hl9 : l.stackTraces = false) (hend9 : ∀ (pc : Nat) (H : Heap) (locs : List Loc) (ls : Array Slot) (cells slots : Nat), decode code pc = .ok (.ireturn, 1) → va_S (Ab G.b) s.heap H locs → cells ≤ 668972 → slots ≤ 7086985 → W p l e room_1 s m args below meth c H locs cells slots Q (F0 m pc ls [.int 1])) {n9_670 : Nat} {n9_747 : Nat} {k670 : Hp → Nat → Int32 → Nat → Nat → Nat → Nat → Nat → Nat → Nat → Nat → Nat → Nat → Int32 → Prop} (hk670 : ∀ (S : Hp) (v1 : Nat) (v2 : Int32) (v3 : Nat) (v4 : Nat) (v5 : Nat) (v6 : Nat) (v7 : Nat) (v8 : Nat) (v9 : Nat) (v10 : Nat) (v11 : Nat) (v12 : Nat) (v13 : Int32) (H : Heap) (locs : List Loc) (ls : Array Slot) (cells slots : Nat), k670 S v1 v2 v3 v4 v5 v6 v7 v8 v9 v10 v11 v12 v13 → Ok G S H → va_S (Ab G.b) s.heap H locs → lv_has ls 37 [(0, .ref G.xb), (1, .ref v1), (2, .int v2), (3, .ref v3), (4, .ref v4), (5, .ref v5), (6, .ref v6), (7, .ref v7), (8, .ref v8), (9, .ref v9), (10, .ref v10), (11, .ref v11), (12, .ref v12), (13, .int v13)] → cells + (n9_670 * 127 + 3) ≤ 668972 → slots + (n9_670 * 662 + 18) ≤ 7086985 → W p l e room_1 s m args below meth c H locs cells slots Q (F0 m 670 ls [])) {k747 : Hp → Nat → Int32 → Nat → Nat → Nat → Nat → Nat → Nat → Nat → Nat → Nat → Nat → Int32 → Int32 → Int32 → Int32 → Nat → Nat → Int32 → Prop} (hk747 : ∀ (S : Hp) (v1 : Nat) (v2 : Int32) (v3 : Nat) (v4 : Nat) (v5 : Nat) (v6 : Nat) (v7 : Nat) (v8 : Nat) (v9 : Nat) (v10 : Nat) (v11 : Nat) (v12 : Nat) (v13 : Int32) (v14 : Int32) (v15 : Int32) (v16 : Int32) (v17 : Nat) (v18 : Nat) (v19 : Int32) (H : Heap) (locs : List Loc) (ls : Array Slot) (cells slots : Nat), k747 S v1 v2 v3 v4 v5 v6 v7 v8 v9 v10 v11 v12 v13 v14 v15 v16 v17 v18 v19 → Ok G S H → va_S (Ab G.b) s.heap H locs → lv_has ls 37 [(0, .ref G.xb), (1, .ref v1), (2, .int v2), (3, .ref v3), (4, .ref v4), (5, .ref v5), (6, .ref v6), (7, .ref v7), (8, .ref v8), (9, .ref v9), (10, .ref v10), (11, .ref v11), (12, .ref v12), (13, .int v13), (14, .int v14), (15, .int v15), (16, .int v16), (17, .ref v17), (18, .ref v18), (19, .int v19)] → cells + (n9_670 * 127 + n9_747 * 2 + 30) ≤ 668972 → slots + (n9_670 * 662 + n9_747 * 10 + 180) ≤ 7086985 → W p l e room_1 s m args below meth c H locs cells slots Q (F0 m 747 ls [])) {k806 : Hp → Nat → Int32 → Nat → Nat → Nat → Nat → Nat → Nat → Nat → Nat → Nat → Nat → Int32 → Int32 → Int32 → Int32 → Nat → Nat → Int32 → Nat → Nat → Int32 → Prop} (hk806 : ∀ (S : Hp) (v1 : Nat) (v2 : Int32) (v3 : Nat) (v4 : Nat) (v5 : Nat) (v6 : Nat) (v7 : Nat) (v8 : Nat) (v9 : Nat) (v10 : Nat) (v11 : Nat) (v12 : Nat) (v13 : Int32) (v14 : Int32) (v15 : Int32) (v16 : Int32) (v17 : Nat) (v18 : Nat) (v19 : Int32) (v20 : Nat) (v21 : Nat) (v22 : Int32) (H : Heap) (locs : List Loc) (ls : Array Slot) (cells slots : Nat), k806 S v1 v2 v3 v4 v5 v6 v7 v8 v9 v10 v11 v12 v13 v14 v15 v16 v17 v18 v19 v20 v21 v22 → Ok G S H → va_S (Ab G.b) s.heap H locs → lv_has ls 37 [(0, .ref G.xb), (1, .ref v1), (2, .int v2), (3, .ref v3), (4, .ref v4), (5, .ref v5), (6, .ref v6), (7, .ref v7), (8, .ref v8), (9, .ref v9), (10, .ref v10), (11, .ref v11), (12, .ref v12), (13, .int v13), (14, .int v14), (15, .int v15), (16, .int v16), (17, .ref v17), (18, .ref v18), (19, .int v19), (20, .ref v20), (21, .ref v21), (22, .int v22)] → cells + (n9_670 * 127 + n9_747 * 2 + 30) ≤ 668972 → slots + (n9_670 * 662 + n9_747 * 10 + 180) ≤ 7086985 → W p l e room_1 s m args below meth c H locs cells slots Q (F0 m 806 ls [])) : ∀ (S : Hp) (v1 : Nat) (v2 : Int32) (v3 : Nat) (v4 : Nat) (v5 : Nat) (v6 : Nat) (v7 : Nat) (v8 : Nat) (v9 : Nat) (v10 : Nat) (v11 : Nat) (v12 : Nat) (v13 : Int32) (v14 : Int32) (v15 : Int32) (v16 : Int32) (v17 : Nat) (v18 : Nat) (v19 : Int32) (v20 : Nat) (v21 : Nat) (v22 : Int32) (H : Heap) (locs : List Loc) (ls : Array Slot) (cells slots : Nat), wL_law_b806 G.xs G.xl k670 k747 k806 S v1 v2 v3 v4 v5 v6 v7 v8 v9 v10 v11 v12 v13 v14 v15 v16 v17 v18 v19 v20 v21 v22 → Ok G S H → va_S (Ab G.b) s.heap H locs → lv_has ls 37 [(0, .ref G.xb), (1, .ref v1), (2, .int v2), (3, .ref v3), (4, .ref v4), (5, .ref v5), (6, .ref v6), (7, .ref v7), (8, .ref v8), (9, .ref v9), (10, .ref v10), (11, .ref v11), (12, .ref v12), (13, .int v13), (14, .int v14), (15, .int v15), (16, .int v16), (17, .ref v17), (18, .ref v18), (19, .int v19), (20, .ref v20), (21, .ref v21), (22, .int v22)] → cells + (n9_670 * 127 + n9_747 * 2 + 30) ≤ 668972 → slots + (n9_670 * 662 + n9_747 * 10 + 180) ≤ 7086985 → W p l e room_1 s m args below meth c H locs cells slots Q (F0 m 806 ls []) := by
  intro S v1 v2 v3 v4 v5 v6 v7 v8 v9 v10 v11 v12 v13 v14 v15 v16 v17 v18 v19 v20 v21 v22 H locs ls cells slots h hO hS hl hcc hss
  unfold wL_law_b806 at h
  refine lv_iload C0.1 C0.2.1 dL_law_806 (lv_at hl 22 rfl) ?_
  refine lv_iconst (v := 2) C0.1 C0.2.1 dL_law_808 (by decide) ?_
  refine lv_icmp_ge (tgt := 1111) C0.1 C0.2.1 dL_law_809 (by decide) (fun c1 => ?_) (fun c1 => ?_)
  · replace h := h.1 c1
    exact bL_law_b1111 C0 Y hl9 hend9 hk670 hk747 _ _ _ _ _ _ _ _ _ _ _ _ _ _ _ _ _ _ _ _ _ _ _ _ _ _ _ h hO hS (lv_sub hl [0, 1, 2, 3, 4, 5, 6, 7, 8, 9, 10, 11, 12, 13, 14, 15, 16, 17, 18, 19, 20, 21] rfl) (by clear h; omega) (by clear h; omega)
  · replace h := h.2 c1
    refine lv_iload C0.1 C0.2.1 dL_law_812 (lv_at hl 14 rfl) ?_
    refine lv_if_ne (tgt := 1111) C0.1 C0.2.1 dL_law_814 (by decide) (fun c2 => ?_) (fun c2 => ?_)
    · replace h := h.1 c2
      exact bL_law_b1111 C0 Y hl9 hend9 hk670 hk747 _ _ _ _ _ _ _ _ _ _ _ _ _ _ _ _ _ _ _ _ _ _ _ _ _ _ _ h hO hS (lv_sub hl [0, 1, 2, 3, 4, 5, 6, 7, 8, 9, 10, 11, 12, 13, 14, 15, 16, 17, 18, 19, 20, 21] rfl) (by clear h; omega) (by clear h; omega)
    · replace h := h.2 c2
      refine lv_aload C0.1 C0.2.1 dL_law_817 (lv_at hl 6 rfl) ?_
      refine lv_iload C0.1 C0.2.1 dL_law_819 (lv_at hl 22 rfl) ?_
      obtain ⟨i3, h⟩ := h
      obtain ⟨e4, h⟩ := h
      refine r_iald C0 hO i3 e4 dL_law_821 ?_
      refine lv_istore C0.1 C0.2.1 dL_law_822 hl (by decide) rfl (fun ls hl => ?_)
      refine lv_aload C0.1 C0.2.1 dL_law_824 (lv_at hl 9 rfl) ?_
      refine lv_iload C0.1 C0.2.1 dL_law_826 (lv_at hl 0 rfl) ?_
      obtain ⟨i5, h⟩ := h
      obtain ⟨e6, h⟩ := h
      refine r_lald C0 hO i5 e6 dL_law_828 ?_
      refine lv_aload C0.1 C0.2.1 dL_law_829 (lv_at hl 22 rfl) ?_
      refine lv_iload C0.1 C0.2.1 dL_law_831 (lv_at hl 0 rfl) ?_
      obtain ⟨i7, h⟩ := h
      obtain ⟨e8, h⟩ := h
      refine r_lald C0 hO i7 e8 dL_law_833 ?_
      refine lv_lmul C0.1 C0.2.1 dL_law_834 ?_
      refine lv_aload C0.1 C0.2.1 dL_law_835 (lv_at hl 21 rfl) ?_
      refine lv_iload C0.1 C0.2.1 dL_law_837 (lv_at hl 0 rfl) ?_
      obtain ⟨i9, h⟩ := h
      obtain ⟨e10, h⟩ := h
      refine r_lald C0 hO i9 e10 dL_law_839 ?_
      refine lv_aload C0.1 C0.2.1 dL_law_840 (lv_at hl 10 rfl) ?_
      refine lv_iload C0.1 C0.2.1 dL_law_842 (lv_at hl 0 rfl) ?_
      obtain ⟨i11, h⟩ := h
      obtain ⟨e12, h⟩ := h
      refine r_lald C0 hO i11 e12 dL_law_844 ?_
      refine lv_lmul C0.1 C0.2.1 dL_law_845 ?_
      refine lv_ladd C0.1 C0.2.1 dL_law_846 ?_
      refine lv_lstore C0.1 C0.2.1 dL_law_847 hl (by decide) rfl (fun ls hl => ?_)
      refine lv_aload C0.1 C0.2.1 dL_law_849 (lv_at hl 11 rfl) ?_
      refine lv_iload C0.1 C0.2.1 dL_law_851 (lv_at hl 1 rfl) ?_
      obtain ⟨e13, h⟩ := h
      refine r_lald C0 hO i11 e13 dL_law_853 ?_
      refine lv_aload C0.1 C0.2.1 dL_law_854 (lv_at hl 23 rfl) ?_
      refine lv_iload C0.1 C0.2.1 dL_law_856 (lv_at hl 1 rfl) ?_
      obtain ⟨e14, h⟩ := h
      refine r_lald C0 hO i7 e14 dL_law_858 ?_
      refine lv_lmul C0.1 C0.2.1 dL_law_859 ?_
      refine lv_lstore C0.1 C0.2.1 dL_law_860 hl (by decide) rfl (fun ls hl => ?_)
      refine lv_aload C0.1 C0.2.1 dL_law_862 (lv_at hl 7 rfl) ?_
      refine lv_iload C0.1 C0.2.1 dL_law_864 (lv_at hl 25 rfl) ?_
      obtain ⟨i15, h⟩ := h
      obtain ⟨e16, h⟩ := h
      refine r_iald C0 hO i15 e16 dL_law_866 ?_
      refine lv_i2l C0.1 C0.2.1 dL_law_867 rfl ?_
      refine lv_lstore C0.1 C0.2.1 dL_law_868 hl (by decide) rfl (fun ls hl => ?_)
      refine lv_aload_n C0.1 C0.2.1 dL_law_870 rfl (lv_at hl 7 rfl) ?_
      refine lv_iload C0.1 C0.2.1 dL_law_871 (lv_at hl 26 rfl) ?_
      obtain ⟨i17, h⟩ := h
      obtain ⟨e18, h⟩ := h
      refine r_cald C0 hO i17 e18 dL_law_873 ?_
      refine lv_bipush (v := 103) C0.1 C0.2.1 dL_law_874 (by decide) ?_
      refine lv_icmp_ne (tgt := 891) C0.1 C0.2.1 dL_law_876 (by decide) (fun c19 => ?_) (fun c19 => ?_)
      · replace h := h.1 c19
        refine lv_aload_n C0.1 C0.2.1 dL_law_891 rfl (lv_at hl 7 rfl) ?_
        refine lv_iload C0.1 C0.2.1 dL_law_892 (lv_at hl 26 rfl) ?_
        obtain ⟨e20, h⟩ := h
        refine r_cald C0 hO i17 e20 dL_law_894 ?_
        refine lv_bipush (v := 105) C0.1 C0.2.1 dL_law_895 (by decide) ?_
        refine lv_icmp_ne (tgt := 911) C0.1 C0.2.1 dL_law_897 (by decide) (fun c21 => ?_) (fun c21 => ?_)
        · replace h := h.1 c21
          refine lv_aload C0.1 C0.2.1 dL_law_911 (lv_at hl 24 rfl) ?_
          refine lv_iload C0.1 C0.2.1 dL_law_913 (lv_at hl 3 rfl) ?_
          obtain ⟨e22, h⟩ := h
          refine r_lald C0 hO i9 e22 dL_law_915 ?_
          exact bL_law_b916 C0 Y hl9 hend9 hk670 hk747 hk806 _ _ _ _ _ _ _ _ _ _ _ _ _ _ _ _ _ _ _ _ _ _ _ _ _ _ _ _ _ _ _ _ _ h hO hS (lv_sub hl [4, 5, 6, 7, 8, 9, 10, 11, 12, 13, 14, 15, 16, 17, 18, 19, 20, 21, 22, 23, 24, 25, 26, 3, 2, 1, 0] rfl) (by clear h; omega) (by clear h; omega)
        · replace h := h.2 c21
          refine lv_aload C0.1 C0.2.1 dL_law_900 (lv_at hl 24 rfl) ?_
          refine lv_iload C0.1 C0.2.1 dL_law_902 (lv_at hl 3 rfl) ?_
          obtain ⟨e23, h⟩ := h
          refine r_lald C0 hO i9 e23 dL_law_904 ?_
          refine lv_lload C0.1 C0.2.1 dL_law_905 (lv_at hl 0 rfl) ?_
          refine lv_lmul C0.1 C0.2.1 dL_law_907 ?_
          refine lv_goto (tgt := 916) C0.1 C0.2.1 dL_law_908 (by decide) ?_
          exact bL_law_b916 C0 Y hl9 hend9 hk670 hk747 hk806 _ _ _ _ _ _ _ _ _ _ _ _ _ _ _ _ _ _ _ _ _ _ _ _ _ _ _ _ _ _ _ _ _ h hO hS (lv_sub hl [4, 5, 6, 7, 8, 9, 10, 11, 12, 13, 14, 15, 16, 17, 18, 19, 20, 21, 22, 23, 24, 25, 26, 3, 2, 1, 0] rfl) (by clear h; omega) (by clear h; omega)
      · replace h := h.2 c19
        refine lv_aload C0.1 C0.2.1 dL_law_879 (lv_at hl 24 rfl) ?_
        refine lv_iload C0.1 C0.2.1 dL_law_881 (lv_at hl 3 rfl) ?_
        obtain ⟨e24, h⟩ := h
        refine r_lald C0 hO i9 e24 dL_law_883 ?_
        refine lv_lneg C0.1 C0.2.1 dL_law_884 ?_
        refine lv_lload C0.1 C0.2.1 dL_law_885 (lv_at hl 0 rfl) ?_
        refine lv_lmul C0.1 C0.2.1 dL_law_887 ?_
        refine lv_goto (tgt := 916) C0.1 C0.2.1 dL_law_888 (by decide) ?_
        exact bL_law_b916 C0 Y hl9 hend9 hk670 hk747 hk806 _ _ _ _ _ _ _ _ _ _ _ _ _ _ _ _ _ _ _ _ _ _ _ _ _ _ _ _ _ _ _ _ _ h hO hS (lv_sub hl [4, 5, 6, 7, 8, 9, 10, 11, 12, 13, 14, 15, 16, 17, 18, 19, 20, 21, 22, 23, 24, 25, 26, 3, 2, 1, 0] rfl) (by clear h; omega) (by clear h; omega)
set_option maxHeartbeats 4000000 in
set_option maxRecDepth 100000 in
theorem lL_law_b806 {p : Program} {l : Launch} {e : Env} {s : State} {m : MethodId} {args : Array Value} {below : List Frame} {meth : Method} {c : Code} {G : Gw} {Q : State → Prop}  (C0 : Mx p s m c code 37 args yL_law.cls G) (Y : My meth (some .boolean)) (hl9 : l.stackTraces = false) (hend9 : ∀ (pc : Nat) (H : Heap) (locs : List Loc) (ls : Array Slot) (cells slots : Nat), decode code pc = .ok (.ireturn, 1) → va_S (Ab G.b) s.heap H locs → cells ≤ 668972 → slots ≤ 7086985 → W p l e room_1 s m args below meth c H locs cells slots Q (F0 m pc ls [.int 1])) {n9_670 : Nat} {n9_747 : Nat} {k670 : Hp → Nat → Int32 → Nat → Nat → Nat → Nat → Nat → Nat → Nat → Nat → Nat → Nat → Int32 → Prop} (hk670 : ∀ (S : Hp) (v1 : Nat) (v2 : Int32) (v3 : Nat) (v4 : Nat) (v5 : Nat) (v6 : Nat) (v7 : Nat) (v8 : Nat) (v9 : Nat) (v10 : Nat) (v11 : Nat) (v12 : Nat) (v13 : Int32) (H : Heap) (locs : List Loc) (ls : Array Slot) (cells slots : Nat), k670 S v1 v2 v3 v4 v5 v6 v7 v8 v9 v10 v11 v12 v13 → Ok G S H → va_S (Ab G.b) s.heap H locs → lv_has ls 37 [(0, .ref G.xb), (1, .ref v1), (2, .int v2), (3, .ref v3), (4, .ref v4), (5, .ref v5), (6, .ref v6), (7, .ref v7), (8, .ref v8), (9, .ref v9), (10, .ref v10), (11, .ref v11), (12, .ref v12), (13, .int v13)] → cells + (n9_670 * 127 + 3) ≤ 668972 → slots + (n9_670 * 662 + 18) ≤ 7086985 → W p l e room_1 s m args below meth c H locs cells slots Q (F0 m 670 ls [])) {k747 : Hp → Nat → Int32 → Nat → Nat → Nat → Nat → Nat → Nat → Nat → Nat → Nat → Nat → Int32 → Int32 → Int32 → Int32 → Nat → Nat → Int32 → Prop} (hk747 : ∀ (S : Hp) (v1 : Nat) (v2 : Int32) (v3 : Nat) (v4 : Nat) (v5 : Nat) (v6 : Nat) (v7 : Nat) (v8 : Nat) (v9 : Nat) (v10 : Nat) (v11 : Nat) (v12 : Nat) (v13 : Int32) (v14 : Int32) (v15 : Int32) (v16 : Int32) (v17 : Nat) (v18 : Nat) (v19 : Int32) (H : Heap) (locs : List Loc) (ls : Array Slot) (cells slots : Nat), k747 S v1 v2 v3 v4 v5 v6 v7 v8 v9 v10 v11 v12 v13 v14 v15 v16 v17 v18 v19 → Ok G S H → va_S (Ab G.b) s.heap H locs → lv_has ls 37 [(0, .ref G.xb), (1, .ref v1), (2, .int v2), (3, .ref v3), (4, .ref v4), (5, .ref v5), (6, .ref v6), (7, .ref v7), (8, .ref v8), (9, .ref v9), (10, .ref v10), (11, .ref v11), (12, .ref v12), (13, .int v13), (14, .int v14), (15, .int v15), (16, .int v16), (17, .ref v17), (18, .ref v18), (19, .int v19)] → cells + (n9_670 * 127 + n9_747 * 2 + 30) ≤ 668972 → slots + (n9_670 * 662 + n9_747 * 10 + 180) ≤ 7086985 → W p l e room_1 s m args below meth c H locs cells slots Q (F0 m 747 ls [])) : ∀ n9 : Nat, ∀ (S : Hp) (v1 : Nat) (v2 : Int32) (v3 : Nat) (v4 : Nat) (v5 : Nat) (v6 : Nat) (v7 : Nat) (v8 : Nat) (v9 : Nat) (v10 : Nat) (v11 : Nat) (v12 : Nat) (v13 : Int32) (v14 : Int32) (v15 : Int32) (v16 : Int32) (v17 : Nat) (v18 : Nat) (v19 : Int32) (v20 : Nat) (v21 : Nat) (v22 : Int32) (H : Heap) (locs : List Loc) (ls : Array Slot) (cells slots : Nat), it23 (wL_law_b806 G.xs G.xl k670 k747) n9 S v1 v2 v3 v4 v5 v6 v7 v8 v9 v10 v11 v12 v13 v14 v15 v16 v17 v18 v19 v20 v21 v22 → Ok G S H → va_S (Ab G.b) s.heap H locs → lv_has ls 37 [(0, .ref G.xb), (1, .ref v1), (2, .int v2), (3, .ref v3), (4, .ref v4), (5, .ref v5), (6, .ref v6), (7, .ref v7), (8, .ref v8), (9, .ref v9), (10, .ref v10), (11, .ref v11), (12, .ref v12), (13, .int v13), (14, .int v14), (15, .int v15), (16, .int v16), (17, .ref v17), (18, .ref v18), (19, .int v19), (20, .ref v20), (21, .ref v21), (22, .int v22)] → cells + (n9_670 * 127 + n9_747 * 2 + 30) ≤ 668972 → slots + (n9_670 * 662 + n9_747 * 10 + 180) ≤ 7086985 → W p l e room_1 s m args below meth c H locs cells slots Q (F0 m 806 ls []) := by
  intro n9
  induction n9 with
  | zero => intro S v1 v2 v3 v4 v5 v6 v7 v8 v9 v10 v11 v12 v13 v14 v15 v16 v17 v18 v19 v20 v21 v22 H locs ls cells slots h; exact (h : False).elim
  | succ n9 ih => intro S v1 v2 v3 v4 v5 v6 v7 v8 v9 v10 v11 v12 v13 v14 v15 v16 v17 v18 v19 v20 v21 v22 H locs ls cells slots h hO hS hl hcc hss; exact bL_law_b806 C0 Y hl9 hend9 hk670 hk747 ih S v1 v2 v3 v4 v5 v6 v7 v8 v9 v10 v11 v12 v13 v14 v15 v16 v17 v18 v19 v20 v21 v22 H locs ls cells slots h hO hS hl (by omega) (by omega)
def wL_law_b1471 (x0 : (Nat → Int32)) (L9 : Nat) (k670 : Hp → Nat → Int32 → Nat → Nat → Nat → Nat → Nat → Nat → Nat → Nat → Nat → Nat → Int32 → Prop) (k1430 : Hp → Nat → Int32 → Nat → Nat → Nat → Nat → Nat → Nat → Nat → Nat → Nat → Nat → Int32 → Int32 → Int32 → Nat → Nat → Int32 → Int32 → Prop) (S : Hp) (v1 : Nat) (v2 : Int32) (v3 : Nat) (v4 : Nat) (v5 : Nat) (v6 : Nat) (v7 : Nat) (v8 : Nat) (v9 : Nat) (v10 : Nat) (v11 : Nat) (v12 : Nat) (v13 : Int32) (v14 : Int32) (v15 : Int32) (v17 : Nat) (v18 : Nat) (v20 : Int32) (z0 : Int32) (z1 : Int32) : Prop := k1430 S v1 v2 v3 v4 v5 v6 v7 v8 v9 v10 v11 v12 v13 v14 v15 v17 v18 (z0 + z1) (v20 + 1)
set_option maxHeartbeats 4000000 in
set_option maxRecDepth 100000 in
theorem bL_law_b1471 {p : Program} {l : Launch} {e : Env} {s : State} {m : MethodId} {args : Array Value} {below : List Frame} {meth : Method} {c : Code} {G : Gw} {Q : State → Prop}  (C0 : Mx p s m c code 37 args yL_law.cls G) (Y : My meth (some .boolean)) (hl9 : l.stackTraces = false) (hend9 : ∀ (pc : Nat) (H : Heap) (locs : List Loc) (ls : Array Slot) (cells slots : Nat), decode code pc = .ok (.ireturn, 1) → va_S (Ab G.b) s.heap H locs → cells ≤ 668972 → slots ≤ 7086985 → W p l e room_1 s m args below meth c H locs cells slots Q (F0 m pc ls [.int 1])) {n9_670 : Nat} {k670 : Hp → Nat → Int32 → Nat → Nat → Nat → Nat → Nat → Nat → Nat → Nat → Nat → Nat → Int32 → Prop} (hk670 : ∀ (S : Hp) (v1 : Nat) (v2 : Int32) (v3 : Nat) (v4 : Nat) (v5 : Nat) (v6 : Nat) (v7 : Nat) (v8 : Nat) (v9 : Nat) (v10 : Nat) (v11 : Nat) (v12 : Nat) (v13 : Int32) (H : Heap) (locs : List Loc) (ls : Array Slot) (cells slots : Nat), k670 S v1 v2 v3 v4 v5 v6 v7 v8 v9 v10 v11 v12 v13 → Ok G S H → va_S (Ab G.b) s.heap H locs → lv_has ls 37 [(0, .ref G.xb), (1, .ref v1), (2, .int v2), (3, .ref v3), (4, .ref v4), (5, .ref v5), (6, .ref v6), (7, .ref v7), (8, .ref v8), (9, .ref v9), (10, .ref v10), (11, .ref v11), (12, .ref v12), (13, .int v13)] → cells + (n9_670 * 127 + 3) ≤ 668972 → slots + (n9_670 * 662 + 18) ≤ 7086985 → W p l e room_1 s m args below meth c H locs cells slots Q (F0 m 670 ls [])) {k1430 : Hp → Nat → Int32 → Nat → Nat → Nat → Nat → Nat → Nat → Nat → Nat → Nat → Nat → Int32 → Int32 → Int32 → Nat → Nat → Int32 → Int32 → Prop} (hk1430 : ∀ (S : Hp) (v1 : Nat) (v2 : Int32) (v3 : Nat) (v4 : Nat) (v5 : Nat) (v6 : Nat) (v7 : Nat) (v8 : Nat) (v9 : Nat) (v10 : Nat) (v11 : Nat) (v12 : Nat) (v13 : Int32) (v14 : Int32) (v15 : Int32) (v17 : Nat) (v18 : Nat) (v19 : Int32) (v20 : Int32) (H : Heap) (locs : List Loc) (ls : Array Slot) (cells slots : Nat), k1430 S v1 v2 v3 v4 v5 v6 v7 v8 v9 v10 v11 v12 v13 v14 v15 v17 v18 v19 v20 → Ok G S H → va_S (Ab G.b) s.heap H locs → lv_has ls 37 [(0, .ref G.xb), (1, .ref v1), (2, .int v2), (3, .ref v3), (4, .ref v4), (5, .ref v5), (6, .ref v6), (7, .ref v7), (8, .ref v8), (9, .ref v9), (10, .ref v10), (11, .ref v11), (12, .ref v12), (13, .int v13), (14, .int v14), (15, .int v15), (17, .ref v17), (18, .ref v18), (19, .int v19), (20, .int v20)] → cells + (n9_670 * 127 + 30) ≤ 668972 → slots + (n9_670 * 662 + 180) ≤ 7086985 → W p l e room_1 s m args below meth c H locs cells slots Q (F0 m 1430 ls [])) : ∀ (S : Hp) (v1 : Nat) (v2 : Int32) (v3 : Nat) (v4 : Nat) (v5 : Nat) (v6 : Nat) (v7 : Nat) (v8 : Nat) (v9 : Nat) (v10 : Nat) (v11 : Nat) (v12 : Nat) (v13 : Int32) (v14 : Int32) (v15 : Int32) (v17 : Nat) (v18 : Nat) (v20 : Int32) (z0 : Int32) (z1 : Int32) (H : Heap) (locs : List Loc) (ls : Array Slot) (cells slots : Nat), wL_law_b1471 G.xs G.xl k670 k1430 S v1 v2 v3 v4 v5 v6 v7 v8 v9 v10 v11 v12 v13 v14 v15 v17 v18 v20 z0 z1 → Ok G S H → va_S (Ab G.b) s.heap H locs → lv_has ls 37 [(0, .ref G.xb), (1, .ref v1), (2, .int v2), (3, .ref v3), (4, .ref v4), (5, .ref v5), (6, .ref v6), (7, .ref v7), (8, .ref v8), (9, .ref v9), (10, .ref v10), (11, .ref v11), (12, .ref v12), (13, .int v13), (14, .int v14), (15, .int v15), (17, .ref v17), (18, .ref v18), (20, .int v20)] → cells + (n9_670 * 127 + 30) ≤ 668972 → slots + (n9_670 * 662 + 180) ≤ 7086985 → W p l e room_1 s m args below meth c H locs cells slots Q (F0 m 1471 ls [.int z1, .int z0]) := by
  intro S v1 v2 v3 v4 v5 v6 v7 v8 v9 v10 v11 v12 v13 v14 v15 v17 v18 v20 z0 z1 H locs ls cells slots h hO hS hl hcc hss
  unfold wL_law_b1471 at h
  refine lv_iadd C0.1 C0.2.1 dL_law_1471 ?_
  refine lv_istore C0.1 C0.2.1 dL_law_1472 hl (by decide) rfl (fun ls hl => ?_)
  refine lv_iinc (v := _ + 1) C0.1 C0.2.1 dL_law_1474 hl (k := 19) rfl rfl (by decide) rfl (fun ls hl => ?_)
  refine lv_goto (tgt := 1430) C0.1 C0.2.1 dL_law_1477 (by decide) ?_
  exact hk1430 _ _ _ _ _ _ _ _ _ _ _ _ _ _ _ _ _ _ _ _ _ _ _ _ _ h hO hS (lv_sub hl [2, 3, 4, 5, 6, 7, 8, 9, 10, 11, 12, 13, 14, 15, 16, 17, 18, 19, 1, 0] rfl) (by clear h; omega) (by clear h; omega)
def wL_law_b1470 (x0 : (Nat → Int32)) (L9 : Nat) (k670 : Hp → Nat → Int32 → Nat → Nat → Nat → Nat → Nat → Nat → Nat → Nat → Nat → Nat → Int32 → Prop) (k1430 : Hp → Nat → Int32 → Nat → Nat → Nat → Nat → Nat → Nat → Nat → Nat → Nat → Nat → Int32 → Int32 → Int32 → Nat → Nat → Int32 → Int32 → Prop) (S : Hp) (v1 : Nat) (v2 : Int32) (v3 : Nat) (v4 : Nat) (v5 : Nat) (v6 : Nat) (v7 : Nat) (v8 : Nat) (v9 : Nat) (v10 : Nat) (v11 : Nat) (v12 : Nat) (v13 : Int32) (v14 : Int32) (v15 : Int32) (v17 : Nat) (v18 : Nat) (v20 : Int32) (z0 : Int32) : Prop := wL_law_b1471 x0 L9 k670 k1430 S v1 v2 v3 v4 v5 v6 v7 v8 v9 v10 v11 v12 v13 v14 v15 v17 v18 v20 z0 1
set_option maxHeartbeats 4000000 in
set_option maxRecDepth 100000 in
theorem bL_law_b1470 {p : Program} {l : Launch} {e : Env} {s : State} {m : MethodId} {args : Array Value} {below : List Frame} {meth : Method} {c : Code} {G : Gw} {Q : State → Prop}  (C0 : Mx p s m c code 37 args yL_law.cls G) (Y : My meth (some .boolean)) (hl9 : l.stackTraces = false) (hend9 : ∀ (pc : Nat) (H : Heap) (locs : List Loc) (ls : Array Slot) (cells slots : Nat), decode code pc = .ok (.ireturn, 1) → va_S (Ab G.b) s.heap H locs → cells ≤ 668972 → slots ≤ 7086985 → W p l e room_1 s m args below meth c H locs cells slots Q (F0 m pc ls [.int 1])) {n9_670 : Nat} {k670 : Hp → Nat → Int32 → Nat → Nat → Nat → Nat → Nat → Nat → Nat → Nat → Nat → Nat → Int32 → Prop} (hk670 : ∀ (S : Hp) (v1 : Nat) (v2 : Int32) (v3 : Nat) (v4 : Nat) (v5 : Nat) (v6 : Nat) (v7 : Nat) (v8 : Nat) (v9 : Nat) (v10 : Nat) (v11 : Nat) (v12 : Nat) (v13 : Int32) (H : Heap) (locs : List Loc) (ls : Array Slot) (cells slots : Nat), k670 S v1 v2 v3 v4 v5 v6 v7 v8 v9 v10 v11 v12 v13 → Ok G S H → va_S (Ab G.b) s.heap H locs → lv_has ls 37 [(0, .ref G.xb), (1, .ref v1), (2, .int v2), (3, .ref v3), (4, .ref v4), (5, .ref v5), (6, .ref v6), (7, .ref v7), (8, .ref v8), (9, .ref v9), (10, .ref v10), (11, .ref v11), (12, .ref v12), (13, .int v13)] → cells + (n9_670 * 127 + 3) ≤ 668972 → slots + (n9_670 * 662 + 18) ≤ 7086985 → W p l e room_1 s m args below meth c H locs cells slots Q (F0 m 670 ls [])) {k1430 : Hp → Nat → Int32 → Nat → Nat → Nat → Nat → Nat → Nat → Nat → Nat → Nat → Nat → Int32 → Int32 → Int32 → Nat → Nat → Int32 → Int32 → Prop} (hk1430 : ∀ (S : Hp) (v1 : Nat) (v2 : Int32) (v3 : Nat) (v4 : Nat) (v5 : Nat) (v6 : Nat) (v7 : Nat) (v8 : Nat) (v9 : Nat) (v10 : Nat) (v11 : Nat) (v12 : Nat) (v13 : Int32) (v14 : Int32) (v15 : Int32) (v17 : Nat) (v18 : Nat) (v19 : Int32) (v20 : Int32) (H : Heap) (locs : List Loc) (ls : Array Slot) (cells slots : Nat), k1430 S v1 v2 v3 v4 v5 v6 v7 v8 v9 v10 v11 v12 v13 v14 v15 v17 v18 v19 v20 → Ok G S H → va_S (Ab G.b) s.heap H locs → lv_has ls 37 [(0, .ref G.xb), (1, .ref v1), (2, .int v2), (3, .ref v3), (4, .ref v4), (5, .ref v5), (6, .ref v6), (7, .ref v7), (8, .ref v8), (9, .ref v9), (10, .ref v10), (11, .ref v11), (12, .ref v12), (13, .int v13), (14, .int v14), (15, .int v15), (17, .ref v17), (18, .ref v18), (19, .int v19), (20, .int v20)] → cells + (n9_670 * 127 + 30) ≤ 668972 → slots + (n9_670 * 662 + 180) ≤ 7086985 → W p l e room_1 s m args below meth c H locs cells slots Q (F0 m 1430 ls [])) : ∀ (S : Hp) (v1 : Nat) (v2 : Int32) (v3 : Nat) (v4 : Nat) (v5 : Nat) (v6 : Nat) (v7 : Nat) (v8 : Nat) (v9 : Nat) (v10 : Nat) (v11 : Nat) (v12 : Nat) (v13 : Int32) (v14 : Int32) (v15 : Int32) (v17 : Nat) (v18 : Nat) (v20 : Int32) (z0 : Int32) (H : Heap) (locs : List Loc) (ls : Array Slot) (cells slots : Nat), wL_law_b1470 G.xs G.xl k670 k1430 S v1 v2 v3 v4 v5 v6 v7 v8 v9 v10 v11 v12 v13 v14 v15 v17 v18 v20 z0 → Ok G S H → va_S (Ab G.b) s.heap H locs → lv_has ls 37 [(0, .ref G.xb), (1, .ref v1), (2, .int v2), (3, .ref v3), (4, .ref v4), (5, .ref v5), (6, .ref v6), (7, .ref v7), (8, .ref v8), (9, .ref v9), (10, .ref v10), (11, .ref v11), (12, .ref v12), (13, .int v13), (14, .int v14), (15, .int v15), (17, .ref v17), (18, .ref v18), (20, .int v20)] → cells + (n9_670 * 127 + 30) ≤ 668972 → slots + (n9_670 * 662 + 180) ≤ 7086985 → W p l e room_1 s m args below meth c H locs cells slots Q (F0 m 1470 ls [.int z0]) := by
  intro S v1 v2 v3 v4 v5 v6 v7 v8 v9 v10 v11 v12 v13 v14 v15 v17 v18 v20 z0 H locs ls cells slots h hO hS hl hcc hss
  unfold wL_law_b1470 at h
  refine lv_iconst (v := 1) C0.1 C0.2.1 dL_law_1470 (by decide) ?_
  exact bL_law_b1471 C0 Y hl9 hend9 hk670 hk1430 _ _ _ _ _ _ _ _ _ _ _ _ _ _ _ _ _ _ _ _ _ _ _ _ _ _ h hO hS (lv_sub hl [0, 1, 2, 3, 4, 5, 6, 7, 8, 9, 10, 11, 12, 13, 14, 15, 16, 17, 18] rfl) (by clear h; omega) (by clear h; omega)
def wL_law_b1546 (x0 : (Nat → Int32)) (L9 : Nat) (k670 : Hp → Nat → Int32 → Nat → Nat → Nat → Nat → Nat → Nat → Nat → Nat → Nat → Nat → Int32 → Prop) (k1504 : Hp → Nat → Int32 → Nat → Nat → Nat → Nat → Nat → Nat → Nat → Nat → Nat → Nat → Int32 → Int32 → Prop) (S : Hp) (v1 : Nat) (v3 : Nat) (v4 : Nat) (v5 : Nat) (v6 : Nat) (v7 : Nat) (v8 : Nat) (v9 : Nat) (v10 : Nat) (v11 : Nat) (v12 : Nat) (v13 : Int32) (v20 : Int32) (z0 : Int32) (z1 : Int32) : Prop := k1504 S v1 (z0 &&& z1) v3 v4 v5 v6 v7 v8 v9 v10 v11 v12 v13 (v20 + 1)
set_option maxHeartbeats 4000000 in
set_option maxRecDepth 100000 in
theorem bL_law_b1546 {p : Program} {l : Launch} {e : Env} {s : State} {m : MethodId} {args : Array Value} {below : List Frame} {meth : Method} {c : Code} {G : Gw} {Q : State → Prop}  (C0 : Mx p s m c code 37 args yL_law.cls G) (Y : My meth (some .boolean)) (hl9 : l.stackTraces = false) (hend9 : ∀ (pc : Nat) (H : Heap) (locs : List Loc) (ls : Array Slot) (cells slots : Nat), decode code pc = .ok (.ireturn, 1) → va_S (Ab G.b) s.heap H locs → cells ≤ 668972 → slots ≤ 7086985 → W p l e room_1 s m args below meth c H locs cells slots Q (F0 m pc ls [.int 1])) {n9_670 : Nat} {n9_1504 : Nat} {k670 : Hp → Nat → Int32 → Nat → Nat → Nat → Nat → Nat → Nat → Nat → Nat → Nat → Nat → Int32 → Prop} (hk670 : ∀ (S : Hp) (v1 : Nat) (v2 : Int32) (v3 : Nat) (v4 : Nat) (v5 : Nat) (v6 : Nat) (v7 : Nat) (v8 : Nat) (v9 : Nat) (v10 : Nat) (v11 : Nat) (v12 : Nat) (v13 : Int32) (H : Heap) (locs : List Loc) (ls : Array Slot) (cells slots : Nat), k670 S v1 v2 v3 v4 v5 v6 v7 v8 v9 v10 v11 v12 v13 → Ok G S H → va_S (Ab G.b) s.heap H locs → lv_has ls 37 [(0, .ref G.xb), (1, .ref v1), (2, .int v2), (3, .ref v3), (4, .ref v4), (5, .ref v5), (6, .ref v6), (7, .ref v7), (8, .ref v8), (9, .ref v9), (10, .ref v10), (11, .ref v11), (12, .ref v12), (13, .int v13)] → cells + (n9_670 * 127 + 3) ≤ 668972 → slots + (n9_670 * 662 + 18) ≤ 7086985 → W p l e room_1 s m args below meth c H locs cells slots Q (F0 m 670 ls [])) {k1504 : Hp → Nat → Int32 → Nat → Nat → Nat → Nat → Nat → Nat → Nat → Nat → Nat → Nat → Int32 → Int32 → Prop} (hk1504 : ∀ (S : Hp) (v1 : Nat) (v2 : Int32) (v3 : Nat) (v4 : Nat) (v5 : Nat) (v6 : Nat) (v7 : Nat) (v8 : Nat) (v9 : Nat) (v10 : Nat) (v11 : Nat) (v12 : Nat) (v13 : Int32) (v20 : Int32) (H : Heap) (locs : List Loc) (ls : Array Slot) (cells slots : Nat), k1504 S v1 v2 v3 v4 v5 v6 v7 v8 v9 v10 v11 v12 v13 v20 → Ok G S H → va_S (Ab G.b) s.heap H locs → lv_has ls 37 [(0, .ref G.xb), (1, .ref v1), (2, .int v2), (3, .ref v3), (4, .ref v4), (5, .ref v5), (6, .ref v6), (7, .ref v7), (8, .ref v8), (9, .ref v9), (10, .ref v10), (11, .ref v11), (12, .ref v12), (13, .int v13), (20, .int v20)] → cells + (n9_670 * 127 + n9_1504 * 2 + 15) ≤ 668972 → slots + (n9_670 * 662 + n9_1504 * 12 + 90) ≤ 7086985 → W p l e room_1 s m args below meth c H locs cells slots Q (F0 m 1504 ls [])) : ∀ (S : Hp) (v1 : Nat) (v3 : Nat) (v4 : Nat) (v5 : Nat) (v6 : Nat) (v7 : Nat) (v8 : Nat) (v9 : Nat) (v10 : Nat) (v11 : Nat) (v12 : Nat) (v13 : Int32) (v20 : Int32) (z0 : Int32) (z1 : Int32) (H : Heap) (locs : List Loc) (ls : Array Slot) (cells slots : Nat), wL_law_b1546 G.xs G.xl k670 k1504 S v1 v3 v4 v5 v6 v7 v8 v9 v10 v11 v12 v13 v20 z0 z1 → Ok G S H → va_S (Ab G.b) s.heap H locs → lv_has ls 37 [(0, .ref G.xb), (1, .ref v1), (3, .ref v3), (4, .ref v4), (5, .ref v5), (6, .ref v6), (7, .ref v7), (8, .ref v8), (9, .ref v9), (10, .ref v10), (11, .ref v11), (12, .ref v12), (13, .int v13), (20, .int v20)] → cells + (n9_670 * 127 + n9_1504 * 2 + 15) ≤ 668972 → slots + (n9_670 * 662 + n9_1504 * 12 + 90) ≤ 7086985 → W p l e room_1 s m args below meth c H locs cells slots Q (F0 m 1546 ls [.int z1, .int z0]) := by
  intro S v1 v3 v4 v5 v6 v7 v8 v9 v10 v11 v12 v13 v20 z0 z1 H locs ls cells slots h hO hS hl hcc hss
  unfold wL_law_b1546 at h
  refine lv_iand C0.1 C0.2.1 dL_law_1546 ?_
  refine lv_istore_n C0.1 C0.2.1 dL_law_1547 rfl hl (by decide) rfl (fun ls hl => ?_)
  refine lv_iinc (v := _ + 1) C0.1 C0.2.1 dL_law_1548 hl (k := 14) rfl rfl (by decide) rfl (fun ls hl => ?_)
  refine lv_goto (tgt := 1504) C0.1 C0.2.1 dL_law_1551 (by decide) ?_
  exact hk1504 _ _ _ _ _ _ _ _ _ _ _ _ _ _ _ _ _ _ _ _ h hO hS (lv_sub hl [2, 3, 1, 4, 5, 6, 7, 8, 9, 10, 11, 12, 13, 14, 0] rfl) (by clear h; omega) (by clear h; omega)
def wL_law_b1545 (x0 : (Nat → Int32)) (L9 : Nat) (k670 : Hp → Nat → Int32 → Nat → Nat → Nat → Nat → Nat → Nat → Nat → Nat → Nat → Nat → Int32 → Prop) (k1504 : Hp → Nat → Int32 → Nat → Nat → Nat → Nat → Nat → Nat → Nat → Nat → Nat → Nat → Int32 → Int32 → Prop) (S : Hp) (v1 : Nat) (v3 : Nat) (v4 : Nat) (v5 : Nat) (v6 : Nat) (v7 : Nat) (v8 : Nat) (v9 : Nat) (v10 : Nat) (v11 : Nat) (v12 : Nat) (v13 : Int32) (v20 : Int32) (z0 : Int32) : Prop := wL_law_b1546 x0 L9 k670 k1504 S v1 v3 v4 v5 v6 v7 v8 v9 v10 v11 v12 v13 v20 z0 0
set_option maxHeartbeats 4000000 in
set_option maxRecDepth 100000 in
theorem bL_law_b1545 {p : Program} {l : Launch} {e : Env} {s : State} {m : MethodId} {args : Array Value} {below : List Frame} {meth : Method} {c : Code} {G : Gw} {Q : State → Prop}  (C0 : Mx p s m c code 37 args yL_law.cls G) (Y : My meth (some .boolean)) (hl9 : l.stackTraces = false) (hend9 : ∀ (pc : Nat) (H : Heap) (locs : List Loc) (ls : Array Slot) (cells slots : Nat), decode code pc = .ok (.ireturn, 1) → va_S (Ab G.b) s.heap H locs → cells ≤ 668972 → slots ≤ 7086985 → W p l e room_1 s m args below meth c H locs cells slots Q (F0 m pc ls [.int 1])) {n9_670 : Nat} {n9_1504 : Nat} {k670 : Hp → Nat → Int32 → Nat → Nat → Nat → Nat → Nat → Nat → Nat → Nat → Nat → Nat → Int32 → Prop} (hk670 : ∀ (S : Hp) (v1 : Nat) (v2 : Int32) (v3 : Nat) (v4 : Nat) (v5 : Nat) (v6 : Nat) (v7 : Nat) (v8 : Nat) (v9 : Nat) (v10 : Nat) (v11 : Nat) (v12 : Nat) (v13 : Int32) (H : Heap) (locs : List Loc) (ls : Array Slot) (cells slots : Nat), k670 S v1 v2 v3 v4 v5 v6 v7 v8 v9 v10 v11 v12 v13 → Ok G S H → va_S (Ab G.b) s.heap H locs → lv_has ls 37 [(0, .ref G.xb), (1, .ref v1), (2, .int v2), (3, .ref v3), (4, .ref v4), (5, .ref v5), (6, .ref v6), (7, .ref v7), (8, .ref v8), (9, .ref v9), (10, .ref v10), (11, .ref v11), (12, .ref v12), (13, .int v13)] → cells + (n9_670 * 127 + 3) ≤ 668972 → slots + (n9_670 * 662 + 18) ≤ 7086985 → W p l e room_1 s m args below meth c H locs cells slots Q (F0 m 670 ls [])) {k1504 : Hp → Nat → Int32 → Nat → Nat → Nat → Nat → Nat → Nat → Nat → Nat → Nat → Nat → Int32 → Int32 → Prop} (hk1504 : ∀ (S : Hp) (v1 : Nat) (v2 : Int32) (v3 : Nat) (v4 : Nat) (v5 : Nat) (v6 : Nat) (v7 : Nat) (v8 : Nat) (v9 : Nat) (v10 : Nat) (v11 : Nat) (v12 : Nat) (v13 : Int32) (v20 : Int32) (H : Heap) (locs : List Loc) (ls : Array Slot) (cells slots : Nat), k1504 S v1 v2 v3 v4 v5 v6 v7 v8 v9 v10 v11 v12 v13 v20 → Ok G S H → va_S (Ab G.b) s.heap H locs → lv_has ls 37 [(0, .ref G.xb), (1, .ref v1), (2, .int v2), (3, .ref v3), (4, .ref v4), (5, .ref v5), (6, .ref v6), (7, .ref v7), (8, .ref v8), (9, .ref v9), (10, .ref v10), (11, .ref v11), (12, .ref v12), (13, .int v13), (20, .int v20)] → cells + (n9_670 * 127 + n9_1504 * 2 + 15) ≤ 668972 → slots + (n9_670 * 662 + n9_1504 * 12 + 90) ≤ 7086985 → W p l e room_1 s m args below meth c H locs cells slots Q (F0 m 1504 ls [])) : ∀ (S : Hp) (v1 : Nat) (v3 : Nat) (v4 : Nat) (v5 : Nat) (v6 : Nat) (v7 : Nat) (v8 : Nat) (v9 : Nat) (v10 : Nat) (v11 : Nat) (v12 : Nat) (v13 : Int32) (v20 : Int32) (z0 : Int32) (H : Heap) (locs : List Loc) (ls : Array Slot) (cells slots : Nat), wL_law_b1545 G.xs G.xl k670 k1504 S v1 v3 v4 v5 v6 v7 v8 v9 v10 v11 v12 v13 v20 z0 → Ok G S H → va_S (Ab G.b) s.heap H locs → lv_has ls 37 [(0, .ref G.xb), (1, .ref v1), (3, .ref v3), (4, .ref v4), (5, .ref v5), (6, .ref v6), (7, .ref v7), (8, .ref v8), (9, .ref v9), (10, .ref v10), (11, .ref v11), (12, .ref v12), (13, .int v13), (20, .int v20)] → cells + (n9_670 * 127 + n9_1504 * 2 + 15) ≤ 668972 → slots + (n9_670 * 662 + n9_1504 * 12 + 90) ≤ 7086985 → W p l e room_1 s m args below meth c H locs cells slots Q (F0 m 1545 ls [.int z0]) := by
  intro S v1 v3 v4 v5 v6 v7 v8 v9 v10 v11 v12 v13 v20 z0 H locs ls cells slots h hO hS hl hcc hss
  unfold wL_law_b1545 at h
  refine lv_iconst (v := 0) C0.1 C0.2.1 dL_law_1545 (by decide) ?_
  exact bL_law_b1546 C0 Y hl9 hend9 hk670 hk1504 _ _ _ _ _ _ _ _ _ _ _ _ _ _ _ _ _ _ _ _ _ h hO hS (lv_sub hl [0, 1, 2, 3, 4, 5, 6, 7, 8, 9, 10, 11, 12, 13] rfl) (by clear h; omega) (by clear h; omega)
def wL_law_b1608 (x0 : (Nat → Int32)) (L9 : Nat) (k670 : Hp → Nat → Int32 → Nat → Nat → Nat → Nat → Nat → Nat → Nat → Nat → Nat → Nat → Int32 → Prop) (k1557 : Hp → Nat → Int32 → Nat → Nat → Nat → Nat → Nat → Nat → Nat → Nat → Nat → Nat → Int32 → Int32 → Prop) (S : Hp) (v1 : Nat) (v3 : Nat) (v4 : Nat) (v5 : Nat) (v6 : Nat) (v7 : Nat) (v8 : Nat) (v9 : Nat) (v10 : Nat) (v11 : Nat) (v12 : Nat) (v13 : Int32) (v20 : Int32) (z0 : Int32) (z1 : Int32) : Prop := k1557 S v1 (z0 &&& z1) v3 v4 v5 v6 v7 v8 v9 v10 v11 v12 v13 (v20 + 1)
set_option maxHeartbeats 4000000 in
set_option maxRecDepth 100000 in
theorem bL_law_b1608 {p : Program} {l : Launch} {e : Env} {s : State} {m : MethodId} {args : Array Value} {below : List Frame} {meth : Method} {c : Code} {G : Gw} {Q : State → Prop}  (C0 : Mx p s m c code 37 args yL_law.cls G) (Y : My meth (some .boolean)) (hl9 : l.stackTraces = false) (hend9 : ∀ (pc : Nat) (H : Heap) (locs : List Loc) (ls : Array Slot) (cells slots : Nat), decode code pc = .ok (.ireturn, 1) → va_S (Ab G.b) s.heap H locs → cells ≤ 668972 → slots ≤ 7086985 → W p l e room_1 s m args below meth c H locs cells slots Q (F0 m pc ls [.int 1])) {n9_670 : Nat} {n9_1557 : Nat} {k670 : Hp → Nat → Int32 → Nat → Nat → Nat → Nat → Nat → Nat → Nat → Nat → Nat → Nat → Int32 → Prop} (hk670 : ∀ (S : Hp) (v1 : Nat) (v2 : Int32) (v3 : Nat) (v4 : Nat) (v5 : Nat) (v6 : Nat) (v7 : Nat) (v8 : Nat) (v9 : Nat) (v10 : Nat) (v11 : Nat) (v12 : Nat) (v13 : Int32) (H : Heap) (locs : List Loc) (ls : Array Slot) (cells slots : Nat), k670 S v1 v2 v3 v4 v5 v6 v7 v8 v9 v10 v11 v12 v13 → Ok G S H → va_S (Ab G.b) s.heap H locs → lv_has ls 37 [(0, .ref G.xb), (1, .ref v1), (2, .int v2), (3, .ref v3), (4, .ref v4), (5, .ref v5), (6, .ref v6), (7, .ref v7), (8, .ref v8), (9, .ref v9), (10, .ref v10), (11, .ref v11), (12, .ref v12), (13, .int v13)] → cells + (n9_670 * 127 + 3) ≤ 668972 → slots + (n9_670 * 662 + 18) ≤ 7086985 → W p l e room_1 s m args below meth c H locs cells slots Q (F0 m 670 ls [])) {k1557 : Hp → Nat → Int32 → Nat → Nat → Nat → Nat → Nat → Nat → Nat → Nat → Nat → Nat → Int32 → Int32 → Prop} (hk1557 : ∀ (S : Hp) (v1 : Nat) (v2 : Int32) (v3 : Nat) (v4 : Nat) (v5 : Nat) (v6 : Nat) (v7 : Nat) (v8 : Nat) (v9 : Nat) (v10 : Nat) (v11 : Nat) (v12 : Nat) (v13 : Int32) (v20 : Int32) (H : Heap) (locs : List Loc) (ls : Array Slot) (cells slots : Nat), k1557 S v1 v2 v3 v4 v5 v6 v7 v8 v9 v10 v11 v12 v13 v20 → Ok G S H → va_S (Ab G.b) s.heap H locs → lv_has ls 37 [(0, .ref G.xb), (1, .ref v1), (2, .int v2), (3, .ref v3), (4, .ref v4), (5, .ref v5), (6, .ref v6), (7, .ref v7), (8, .ref v8), (9, .ref v9), (10, .ref v10), (11, .ref v11), (12, .ref v12), (13, .int v13), (20, .int v20)] → cells + (n9_670 * 127 + n9_1557 * 3 + 3) ≤ 668972 → slots + (n9_670 * 662 + n9_1557 * 18 + 18) ≤ 7086985 → W p l e room_1 s m args below meth c H locs cells slots Q (F0 m 1557 ls [])) : ∀ (S : Hp) (v1 : Nat) (v3 : Nat) (v4 : Nat) (v5 : Nat) (v6 : Nat) (v7 : Nat) (v8 : Nat) (v9 : Nat) (v10 : Nat) (v11 : Nat) (v12 : Nat) (v13 : Int32) (v20 : Int32) (z0 : Int32) (z1 : Int32) (H : Heap) (locs : List Loc) (ls : Array Slot) (cells slots : Nat), wL_law_b1608 G.xs G.xl k670 k1557 S v1 v3 v4 v5 v6 v7 v8 v9 v10 v11 v12 v13 v20 z0 z1 → Ok G S H → va_S (Ab G.b) s.heap H locs → lv_has ls 37 [(0, .ref G.xb), (1, .ref v1), (3, .ref v3), (4, .ref v4), (5, .ref v5), (6, .ref v6), (7, .ref v7), (8, .ref v8), (9, .ref v9), (10, .ref v10), (11, .ref v11), (12, .ref v12), (13, .int v13), (20, .int v20)] → cells + (n9_670 * 127 + n9_1557 * 3 + 3) ≤ 668972 → slots + (n9_670 * 662 + n9_1557 * 18 + 18) ≤ 7086985 → W p l e room_1 s m args below meth c H locs cells slots Q (F0 m 1608 ls [.int z1, .int z0]) := by
  intro S v1 v3 v4 v5 v6 v7 v8 v9 v10 v11 v12 v13 v20 z0 z1 H locs ls cells slots h hO hS hl hcc hss
  unfold wL_law_b1608 at h
  refine lv_iand C0.1 C0.2.1 dL_law_1608 ?_
  refine lv_istore_n C0.1 C0.2.1 dL_law_1609 rfl hl (by decide) rfl (fun ls hl => ?_)
  refine lv_iinc (v := _ + 1) C0.1 C0.2.1 dL_law_1610 hl (k := 14) rfl rfl (by decide) rfl (fun ls hl => ?_)
  refine lv_goto (tgt := 1557) C0.1 C0.2.1 dL_law_1613 (by decide) ?_
  exact hk1557 _ _ _ _ _ _ _ _ _ _ _ _ _ _ _ _ _ _ _ _ h hO hS (lv_sub hl [2, 3, 1, 4, 5, 6, 7, 8, 9, 10, 11, 12, 13, 14, 0] rfl) (by clear h; omega) (by clear h; omega)
def wL_law_b1607 (x0 : (Nat → Int32)) (L9 : Nat) (k670 : Hp → Nat → Int32 → Nat → Nat → Nat → Nat → Nat → Nat → Nat → Nat → Nat → Nat → Int32 → Prop) (k1557 : Hp → Nat → Int32 → Nat → Nat → Nat → Nat → Nat → Nat → Nat → Nat → Nat → Nat → Int32 → Int32 → Prop) (S : Hp) (v1 : Nat) (v3 : Nat) (v4 : Nat) (v5 : Nat) (v6 : Nat) (v7 : Nat) (v8 : Nat) (v9 : Nat) (v10 : Nat) (v11 : Nat) (v12 : Nat) (v13 : Int32) (v20 : Int32) (z0 : Int32) : Prop := wL_law_b1608 x0 L9 k670 k1557 S v1 v3 v4 v5 v6 v7 v8 v9 v10 v11 v12 v13 v20 z0 0
set_option maxHeartbeats 4000000 in
set_option maxRecDepth 100000 in
theorem bL_law_b1607 {p : Program} {l : Launch} {e : Env} {s : State} {m : MethodId} {args : Array Value} {below : List Frame} {meth : Method} {c : Code} {G : Gw} {Q : State → Prop}  (C0 : Mx p s m c code 37 args yL_law.cls G) (Y : My meth (some .boolean)) (hl9 : l.stackTraces = false) (hend9 : ∀ (pc : Nat) (H : Heap) (locs : List Loc) (ls : Array Slot) (cells slots : Nat), decode code pc = .ok (.ireturn, 1) → va_S (Ab G.b) s.heap H locs → cells ≤ 668972 → slots ≤ 7086985 → W p l e room_1 s m args below meth c H locs cells slots Q (F0 m pc ls [.int 1])) {n9_670 : Nat} {n9_1557 : Nat} {k670 : Hp → Nat → Int32 → Nat → Nat → Nat → Nat → Nat → Nat → Nat → Nat → Nat → Nat → Int32 → Prop} (hk670 : ∀ (S : Hp) (v1 : Nat) (v2 : Int32) (v3 : Nat) (v4 : Nat) (v5 : Nat) (v6 : Nat) (v7 : Nat) (v8 : Nat) (v9 : Nat) (v10 : Nat) (v11 : Nat) (v12 : Nat) (v13 : Int32) (H : Heap) (locs : List Loc) (ls : Array Slot) (cells slots : Nat), k670 S v1 v2 v3 v4 v5 v6 v7 v8 v9 v10 v11 v12 v13 → Ok G S H → va_S (Ab G.b) s.heap H locs → lv_has ls 37 [(0, .ref G.xb), (1, .ref v1), (2, .int v2), (3, .ref v3), (4, .ref v4), (5, .ref v5), (6, .ref v6), (7, .ref v7), (8, .ref v8), (9, .ref v9), (10, .ref v10), (11, .ref v11), (12, .ref v12), (13, .int v13)] → cells + (n9_670 * 127 + 3) ≤ 668972 → slots + (n9_670 * 662 + 18) ≤ 7086985 → W p l e room_1 s m args below meth c H locs cells slots Q (F0 m 670 ls [])) {k1557 : Hp → Nat → Int32 → Nat → Nat → Nat → Nat → Nat → Nat → Nat → Nat → Nat → Nat → Int32 → Int32 → Prop} (hk1557 : ∀ (S : Hp) (v1 : Nat) (v2 : Int32) (v3 : Nat) (v4 : Nat) (v5 : Nat) (v6 : Nat) (v7 : Nat) (v8 : Nat) (v9 : Nat) (v10 : Nat) (v11 : Nat) (v12 : Nat) (v13 : Int32) (v20 : Int32) (H : Heap) (locs : List Loc) (ls : Array Slot) (cells slots : Nat), k1557 S v1 v2 v3 v4 v5 v6 v7 v8 v9 v10 v11 v12 v13 v20 → Ok G S H → va_S (Ab G.b) s.heap H locs → lv_has ls 37 [(0, .ref G.xb), (1, .ref v1), (2, .int v2), (3, .ref v3), (4, .ref v4), (5, .ref v5), (6, .ref v6), (7, .ref v7), (8, .ref v8), (9, .ref v9), (10, .ref v10), (11, .ref v11), (12, .ref v12), (13, .int v13), (20, .int v20)] → cells + (n9_670 * 127 + n9_1557 * 3 + 3) ≤ 668972 → slots + (n9_670 * 662 + n9_1557 * 18 + 18) ≤ 7086985 → W p l e room_1 s m args below meth c H locs cells slots Q (F0 m 1557 ls [])) : ∀ (S : Hp) (v1 : Nat) (v3 : Nat) (v4 : Nat) (v5 : Nat) (v6 : Nat) (v7 : Nat) (v8 : Nat) (v9 : Nat) (v10 : Nat) (v11 : Nat) (v12 : Nat) (v13 : Int32) (v20 : Int32) (z0 : Int32) (H : Heap) (locs : List Loc) (ls : Array Slot) (cells slots : Nat), wL_law_b1607 G.xs G.xl k670 k1557 S v1 v3 v4 v5 v6 v7 v8 v9 v10 v11 v12 v13 v20 z0 → Ok G S H → va_S (Ab G.b) s.heap H locs → lv_has ls 37 [(0, .ref G.xb), (1, .ref v1), (3, .ref v3), (4, .ref v4), (5, .ref v5), (6, .ref v6), (7, .ref v7), (8, .ref v8), (9, .ref v9), (10, .ref v10), (11, .ref v11), (12, .ref v12), (13, .int v13), (20, .int v20)] → cells + (n9_670 * 127 + n9_1557 * 3 + 3) ≤ 668972 → slots + (n9_670 * 662 + n9_1557 * 18 + 18) ≤ 7086985 → W p l e room_1 s m args below meth c H locs cells slots Q (F0 m 1607 ls [.int z0]) := by
  intro S v1 v3 v4 v5 v6 v7 v8 v9 v10 v11 v12 v13 v20 z0 H locs ls cells slots h hO hS hl hcc hss
  unfold wL_law_b1607 at h
  refine lv_iconst (v := 0) C0.1 C0.2.1 dL_law_1607 (by decide) ?_
  exact bL_law_b1608 C0 Y hl9 hend9 hk670 hk1557 _ _ _ _ _ _ _ _ _ _ _ _ _ _ _ _ _ _ _ _ _ h hO hS (lv_sub hl [0, 1, 2, 3, 4, 5, 6, 7, 8, 9, 10, 11, 12, 13] rfl) (by clear h; omega) (by clear h; omega)
def wL_law_b1557 (x0 : (Nat → Int32)) (L9 : Nat) (k670 : Hp → Nat → Int32 → Nat → Nat → Nat → Nat → Nat → Nat → Nat → Nat → Nat → Nat → Int32 → Prop) (k1557 : Hp → Nat → Int32 → Nat → Nat → Nat → Nat → Nat → Nat → Nat → Nat → Nat → Nat → Int32 → Int32 → Prop) (S : Hp) (v1 : Nat) (v2 : Int32) (v3 : Nat) (v4 : Nat) (v5 : Nat) (v6 : Nat) (v7 : Nat) (v8 : Nat) (v9 : Nat) (v10 : Nat) (v11 : Nat) (v12 : Nat) (v13 : Int32) (v20 : Int32) : Prop := ((3 ≤ v20 → k670 S v1 v2 v3 v4 v5 v6 v7 v8 v9 v10 v11 v12 (v13 + 1)) ∧ (¬ (3 ≤ v20) → wL_wornOver S v1 v20 (fun S2 r3 => isA S2 v10 22 ∧ vp_in v20 (S2.N v10) ∧ ((¬ (lg_cmp r3 (S2.AJ v10 v20.toNatClampNeg)) = 0 → wL_law_b1607 x0 L9 k670 k1557 S2 v1 v3 v4 v5 v6 v7 v8 v9 v10 v11 v12 v13 v20 v2) ∧ ((lg_cmp r3 (S2.AJ v10 v20.toNatClampNeg)) = 0 → wL_wornUnder S2 v1 v20 (fun S7 r8 => isA S7 v11 22 ∧ vp_in v20 (S7.N v11) ∧ ((¬ (lg_cmp r8 (S7.AJ v11 v20.toNatClampNeg)) = 0 → wL_law_b1607 x0 L9 k670 k1557 S7 v1 v3 v4 v5 v6 v7 v8 v9 v10 v11 v12 v13 v20 v2) ∧ ((lg_cmp r8 (S7.AJ v11 v20.toNatClampNeg)) = 0 → isA S7 v1 7 ∧ wX7_isBroken S7 v1 v20 (fun S12 r13 => ((¬ r13 = 0 → wL_law_b1607 x0 L9 k670 k1557 S12 v1 v3 v4 v5 v6 v7 v8 v9 v10 v11 v12 v13 v20 v2) ∧ (r13 = 0 → wL_law_b1608 x0 L9 k670 k1557 S12 v1 v3 v4 v5 v6 v7 v8 v9 v10 v11 v12 v13 v20 v2 1))) (fun S9 E9 => False)))))))))
set_option maxHeartbeats 4000000 in
set_option maxRecDepth 100000 in
theorem bL_law_b1557 {p : Program} {l : Launch} {e : Env} {s : State} {m : MethodId} {args : Array Value} {below : List Frame} {meth : Method} {c : Code} {G : Gw} {Q : State → Prop}  (C0 : Mx p s m c code 37 args yL_law.cls G) (Y : My meth (some .boolean)) (hl9 : l.stackTraces = false) (hend9 : ∀ (pc : Nat) (H : Heap) (locs : List Loc) (ls : Array Slot) (cells slots : Nat), decode code pc = .ok (.ireturn, 1) → va_S (Ab G.b) s.heap H locs → cells ≤ 668972 → slots ≤ 7086985 → W p l e room_1 s m args below meth c H locs cells slots Q (F0 m pc ls [.int 1])) {n9_670 : Nat} {n9_1557 : Nat} {k670 : Hp → Nat → Int32 → Nat → Nat → Nat → Nat → Nat → Nat → Nat → Nat → Nat → Nat → Int32 → Prop} (hk670 : ∀ (S : Hp) (v1 : Nat) (v2 : Int32) (v3 : Nat) (v4 : Nat) (v5 : Nat) (v6 : Nat) (v7 : Nat) (v8 : Nat) (v9 : Nat) (v10 : Nat) (v11 : Nat) (v12 : Nat) (v13 : Int32) (H : Heap) (locs : List Loc) (ls : Array Slot) (cells slots : Nat), k670 S v1 v2 v3 v4 v5 v6 v7 v8 v9 v10 v11 v12 v13 → Ok G S H → va_S (Ab G.b) s.heap H locs → lv_has ls 37 [(0, .ref G.xb), (1, .ref v1), (2, .int v2), (3, .ref v3), (4, .ref v4), (5, .ref v5), (6, .ref v6), (7, .ref v7), (8, .ref v8), (9, .ref v9), (10, .ref v10), (11, .ref v11), (12, .ref v12), (13, .int v13)] → cells + (n9_670 * 127 + 3) ≤ 668972 → slots + (n9_670 * 662 + 18) ≤ 7086985 → W p l e room_1 s m args below meth c H locs cells slots Q (F0 m 670 ls [])) {k1557 : Hp → Nat → Int32 → Nat → Nat → Nat → Nat → Nat → Nat → Nat → Nat → Nat → Nat → Int32 → Int32 → Prop} (hk1557 : ∀ (S : Hp) (v1 : Nat) (v2 : Int32) (v3 : Nat) (v4 : Nat) (v5 : Nat) (v6 : Nat) (v7 : Nat) (v8 : Nat) (v9 : Nat) (v10 : Nat) (v11 : Nat) (v12 : Nat) (v13 : Int32) (v20 : Int32) (H : Heap) (locs : List Loc) (ls : Array Slot) (cells slots : Nat), k1557 S v1 v2 v3 v4 v5 v6 v7 v8 v9 v10 v11 v12 v13 v20 → Ok G S H → va_S (Ab G.b) s.heap H locs → lv_has ls 37 [(0, .ref G.xb), (1, .ref v1), (2, .int v2), (3, .ref v3), (4, .ref v4), (5, .ref v5), (6, .ref v6), (7, .ref v7), (8, .ref v8), (9, .ref v9), (10, .ref v10), (11, .ref v11), (12, .ref v12), (13, .int v13), (20, .int v20)] → cells + (n9_670 * 127 + n9_1557 * 3 + 3) ≤ 668972 → slots + (n9_670 * 662 + n9_1557 * 18 + 18) ≤ 7086985 → W p l e room_1 s m args below meth c H locs cells slots Q (F0 m 1557 ls [])) : ∀ (S : Hp) (v1 : Nat) (v2 : Int32) (v3 : Nat) (v4 : Nat) (v5 : Nat) (v6 : Nat) (v7 : Nat) (v8 : Nat) (v9 : Nat) (v10 : Nat) (v11 : Nat) (v12 : Nat) (v13 : Int32) (v20 : Int32) (H : Heap) (locs : List Loc) (ls : Array Slot) (cells slots : Nat), wL_law_b1557 G.xs G.xl k670 k1557 S v1 v2 v3 v4 v5 v6 v7 v8 v9 v10 v11 v12 v13 v20 → Ok G S H → va_S (Ab G.b) s.heap H locs → lv_has ls 37 [(0, .ref G.xb), (1, .ref v1), (2, .int v2), (3, .ref v3), (4, .ref v4), (5, .ref v5), (6, .ref v6), (7, .ref v7), (8, .ref v8), (9, .ref v9), (10, .ref v10), (11, .ref v11), (12, .ref v12), (13, .int v13), (20, .int v20)] → cells + (n9_670 * 127 + n9_1557 * 3 + 6) ≤ 668972 → slots + (n9_670 * 662 + n9_1557 * 18 + 36) ≤ 7086985 → W p l e room_1 s m args below meth c H locs cells slots Q (F0 m 1557 ls []) := by
  intro S v1 v2 v3 v4 v5 v6 v7 v8 v9 v10 v11 v12 v13 v20 H locs ls cells slots h hO hS hl hcc hss
  unfold wL_law_b1557 at h
  refine lv_iload C0.1 C0.2.1 dL_law_1557 (lv_at hl 14 rfl) ?_
  refine lv_iconst (v := 3) C0.1 C0.2.1 dL_law_1559 (by decide) ?_
  refine lv_icmp_ge (tgt := 1616) C0.1 C0.2.1 dL_law_1560 (by decide) (fun c1 => ?_) (fun c1 => ?_)
  · replace h := h.1 c1
    refine lv_iinc (v := _ + 1) C0.1 C0.2.1 dL_law_1616 hl (k := 13) rfl rfl (by decide) rfl (fun ls hl => ?_)
    refine lv_goto (tgt := 670) C0.1 C0.2.1 dL_law_1619 (by decide) ?_
    exact hk670 _ _ _ _ _ _ _ _ _ _ _ _ _ _ _ _ _ _ _ h hO hS (lv_sub hl [1, 2, 3, 4, 5, 6, 7, 8, 9, 10, 11, 12, 13, 0] rfl) (by clear h; omega) (by clear h; omega)
  · replace h := h.2 c1
    refine lv_iload_n C0.1 C0.2.1 dL_law_1563 rfl (lv_at hl 2 rfl) ?_
    refine lv_aload_n C0.1 C0.2.1 dL_law_1564 rfl (lv_at hl 1 rfl) ?_
    refine lv_iload C0.1 C0.2.1 dL_law_1565 (lv_at hl 14 rfl) ?_
    refine c_SW C0 hO hS (mL_wornOver hl9 h) tb_829 tb_830 tb_26 tb_831 hd_L_wornOver rfl ⟨⟨by decide, by decide⟩, by show _ + 1 ≤ 668972; omega, by show _ + 6 ≤ 7086985; omega⟩ hl.1 rfl (Nat.le_of_ble_eq_true rfl) dL_law_1567 (kJ (fun r3 S2 H locs h hO hS => ?_))
    change W _ _ _ _ _ _ _ _ _ _ _ _ (_ + 1) (_ + 6) _ _
    refine lv_aload C0.1 C0.2.1 dL_law_1570 (lv_at hl 10 rfl) ?_
    refine lv_iload C0.1 C0.2.1 dL_law_1572 (lv_at hl 14 rfl) ?_
    obtain ⟨i4, h⟩ := h
    obtain ⟨e5, h⟩ := h
    refine r_lald C0 hO i4 e5 dL_law_1574 ?_
    refine W.lcmp C0.1 C0.2.1 dL_law_1575 ?_
    refine lv_if_ne (tgt := 1607) C0.1 C0.2.1 dL_law_1576 (by decide) (fun c6 => ?_) (fun c6 => ?_)
    · replace h := h.1 c6
      exact bL_law_b1607 C0 Y hl9 hend9 hk670 hk1557 _ _ _ _ _ _ _ _ _ _ _ _ _ _ _ _ _ _ _ _ h hO hS (lv_sub hl [0, 1, 3, 4, 5, 6, 7, 8, 9, 10, 11, 12, 13, 14] rfl) (by clear h; omega) (by clear h; omega)
    · replace h := h.2 c6
      refine lv_aload_n C0.1 C0.2.1 dL_law_1579 rfl (lv_at hl 1 rfl) ?_
      refine lv_iload C0.1 C0.2.1 dL_law_1580 (lv_at hl 14 rfl) ?_
      refine c_SW C0 hO hS (mL_wornUnder hl9 h) tb_836 tb_837 tb_26 tb_838 hd_L_wornUnder rfl ⟨⟨by decide, by decide⟩, by show _ + 1 ≤ 668972; omega, by show _ + 6 ≤ 7086985; omega⟩ hl.1 rfl (Nat.le_of_ble_eq_true rfl) dL_law_1582 (kJ (fun r8 S7 H locs h hO hS => ?_))
      change W _ _ _ _ _ _ _ _ _ _ _ _ (_ + 1) (_ + 6) _ _
      refine lv_aload C0.1 C0.2.1 dL_law_1585 (lv_at hl 11 rfl) ?_
      refine lv_iload C0.1 C0.2.1 dL_law_1587 (lv_at hl 14 rfl) ?_
      obtain ⟨i9, h⟩ := h
      obtain ⟨e10, h⟩ := h
      refine r_lald C0 hO i9 e10 dL_law_1589 ?_
      refine W.lcmp C0.1 C0.2.1 dL_law_1590 ?_
      refine lv_if_ne (tgt := 1607) C0.1 C0.2.1 dL_law_1591 (by decide) (fun c11 => ?_) (fun c11 => ?_)
      · replace h := h.1 c11
        exact bL_law_b1607 C0 Y hl9 hend9 hk670 hk1557 _ _ _ _ _ _ _ _ _ _ _ _ _ _ _ _ _ _ _ _ h hO hS (lv_sub hl [0, 1, 3, 4, 5, 6, 7, 8, 9, 10, 11, 12, 13, 14] rfl) (by clear h; omega) (by clear h; omega)
      · replace h := h.2 c11
        refine lv_aload_n C0.1 C0.2.1 dL_law_1594 rfl (lv_at hl 1 rfl) ?_
        refine lv_iload C0.1 C0.2.1 dL_law_1595 (lv_at hl 14 rfl) ?_
        obtain ⟨i14, h⟩ := h
        refine y_V C0 hO hS (mX7_isBroken hl9 h) i14 (by decide) rfl rfl tb_192 tb_193 tb_194 tb_27 tb_195 hd_X7_isBroken rfl ⟨⟨by decide, by decide⟩, by show _ + 1 ≤ 668972; omega, by show _ + 6 ≤ 7086985; omega⟩ hl.1 rfl (Nat.le_of_ble_eq_true rfl) dL_law_1597 (fun E9 ce9 q9 S9 H locs h hO hS hcell hv9 hcl => ?_) (kI (fun r13 S12 H locs h hO hS => ?_))
        · exact h.elim
        · change W _ _ _ _ _ _ _ _ _ _ _ _ (_ + 1) (_ + 6) _ _
          refine lv_if_ne (tgt := 1607) C0.1 C0.2.1 dL_law_1600 (by decide) (fun c15 => ?_) (fun c15 => ?_)
          · replace h := h.1 c15
            exact bL_law_b1607 C0 Y hl9 hend9 hk670 hk1557 _ _ _ _ _ _ _ _ _ _ _ _ _ _ _ _ _ _ _ _ h hO hS (lv_sub hl [0, 1, 3, 4, 5, 6, 7, 8, 9, 10, 11, 12, 13, 14] rfl) (by clear h; omega) (by clear h; omega)
          · replace h := h.2 c15
            refine lv_iconst (v := 1) C0.1 C0.2.1 dL_law_1603 (by decide) ?_
            refine lv_goto (tgt := 1608) C0.1 C0.2.1 dL_law_1604 (by decide) ?_
            exact bL_law_b1608 C0 Y hl9 hend9 hk670 hk1557 _ _ _ _ _ _ _ _ _ _ _ _ _ _ _ _ _ _ _ _ _ h hO hS (lv_sub hl [0, 1, 3, 4, 5, 6, 7, 8, 9, 10, 11, 12, 13, 14] rfl) (by clear h; omega) (by clear h; omega)
set_option maxHeartbeats 4000000 in
set_option maxRecDepth 100000 in
theorem lL_law_b1557 {p : Program} {l : Launch} {e : Env} {s : State} {m : MethodId} {args : Array Value} {below : List Frame} {meth : Method} {c : Code} {G : Gw} {Q : State → Prop}  (C0 : Mx p s m c code 37 args yL_law.cls G) (Y : My meth (some .boolean)) (hl9 : l.stackTraces = false) (hend9 : ∀ (pc : Nat) (H : Heap) (locs : List Loc) (ls : Array Slot) (cells slots : Nat), decode code pc = .ok (.ireturn, 1) → va_S (Ab G.b) s.heap H locs → cells ≤ 668972 → slots ≤ 7086985 → W p l e room_1 s m args below meth c H locs cells slots Q (F0 m pc ls [.int 1])) {n9_670 : Nat} {k670 : Hp → Nat → Int32 → Nat → Nat → Nat → Nat → Nat → Nat → Nat → Nat → Nat → Nat → Int32 → Prop} (hk670 : ∀ (S : Hp) (v1 : Nat) (v2 : Int32) (v3 : Nat) (v4 : Nat) (v5 : Nat) (v6 : Nat) (v7 : Nat) (v8 : Nat) (v9 : Nat) (v10 : Nat) (v11 : Nat) (v12 : Nat) (v13 : Int32) (H : Heap) (locs : List Loc) (ls : Array Slot) (cells slots : Nat), k670 S v1 v2 v3 v4 v5 v6 v7 v8 v9 v10 v11 v12 v13 → Ok G S H → va_S (Ab G.b) s.heap H locs → lv_has ls 37 [(0, .ref G.xb), (1, .ref v1), (2, .int v2), (3, .ref v3), (4, .ref v4), (5, .ref v5), (6, .ref v6), (7, .ref v7), (8, .ref v8), (9, .ref v9), (10, .ref v10), (11, .ref v11), (12, .ref v12), (13, .int v13)] → cells + (n9_670 * 127 + 3) ≤ 668972 → slots + (n9_670 * 662 + 18) ≤ 7086985 → W p l e room_1 s m args below meth c H locs cells slots Q (F0 m 670 ls [])) : ∀ n9 : Nat, ∀ (S : Hp) (v1 : Nat) (v2 : Int32) (v3 : Nat) (v4 : Nat) (v5 : Nat) (v6 : Nat) (v7 : Nat) (v8 : Nat) (v9 : Nat) (v10 : Nat) (v11 : Nat) (v12 : Nat) (v13 : Int32) (v20 : Int32) (H : Heap) (locs : List Loc) (ls : Array Slot) (cells slots : Nat), it15 (wL_law_b1557 G.xs G.xl k670) n9 S v1 v2 v3 v4 v5 v6 v7 v8 v9 v10 v11 v12 v13 v20 → Ok G S H → va_S (Ab G.b) s.heap H locs → lv_has ls 37 [(0, .ref G.xb), (1, .ref v1), (2, .int v2), (3, .ref v3), (4, .ref v4), (5, .ref v5), (6, .ref v6), (7, .ref v7), (8, .ref v8), (9, .ref v9), (10, .ref v10), (11, .ref v11), (12, .ref v12), (13, .int v13), (20, .int v20)] → cells + (n9_670 * 127 + n9 * 3 + 3) ≤ 668972 → slots + (n9_670 * 662 + n9 * 18 + 18) ≤ 7086985 → W p l e room_1 s m args below meth c H locs cells slots Q (F0 m 1557 ls []) := by
  intro n9
  induction n9 with
  | zero => intro S v1 v2 v3 v4 v5 v6 v7 v8 v9 v10 v11 v12 v13 v20 H locs ls cells slots h; exact (h : False).elim
  | succ n9 ih => intro S v1 v2 v3 v4 v5 v6 v7 v8 v9 v10 v11 v12 v13 v20 H locs ls cells slots h hO hS hl hcc hss; exact bL_law_b1557 C0 Y hl9 hend9 (n9_1557 := n9) hk670 ih S v1 v2 v3 v4 v5 v6 v7 v8 v9 v10 v11 v12 v13 v20 H locs ls cells slots h hO hS hl (by omega) (by omega)
def wL_law_b1504 (x0 : (Nat → Int32)) (L9 : Nat) (k670 : Hp → Nat → Int32 → Nat → Nat → Nat → Nat → Nat → Nat → Nat → Nat → Nat → Nat → Int32 → Prop) (k1504 : Hp → Nat → Int32 → Nat → Nat → Nat → Nat → Nat → Nat → Nat → Nat → Nat → Nat → Int32 → Int32 → Prop) (S : Hp) (v1 : Nat) (v2 : Int32) (v3 : Nat) (v4 : Nat) (v5 : Nat) (v6 : Nat) (v7 : Nat) (v8 : Nat) (v9 : Nat) (v10 : Nat) (v11 : Nat) (v12 : Nat) (v13 : Int32) (v20 : Int32) : Prop := ((5 ≤ v20 → it15 (wL_law_b1557 x0 L9 k670) 4 S v1 v2 v3 v4 v5 v6 v7 v8 v9 v10 v11 v12 v13 0) ∧ (¬ (5 ≤ v20) → wL_placeOver S v1 v20 (fun S2 r3 => isA S2 v8 22 ∧ vp_in v20 (S2.N v8) ∧ ((¬ (lg_cmp r3 (S2.AJ v8 v20.toNatClampNeg)) = 0 → wL_law_b1545 x0 L9 k670 k1504 S2 v1 v3 v4 v5 v6 v7 v8 v9 v10 v11 v12 v13 v20 v2) ∧ ((lg_cmp r3 (S2.AJ v8 v20.toNatClampNeg)) = 0 → wL_placeUnder S2 v1 v20 (fun S7 r8 => isA S7 v9 22 ∧ vp_in v20 (S7.N v9) ∧ ((¬ (lg_cmp r8 (S7.AJ v9 v20.toNatClampNeg)) = 0 → wL_law_b1545 x0 L9 k670 k1504 S7 v1 v3 v4 v5 v6 v7 v8 v9 v10 v11 v12 v13 v20 v2) ∧ ((lg_cmp r8 (S7.AJ v9 v20.toNatClampNeg)) = 0 → wL_law_b1546 x0 L9 k670 k1504 S7 v1 v3 v4 v5 v6 v7 v8 v9 v10 v11 v12 v13 v20 v2 1))))))))
set_option maxHeartbeats 4000000 in
set_option maxRecDepth 100000 in
theorem bL_law_b1504 {p : Program} {l : Launch} {e : Env} {s : State} {m : MethodId} {args : Array Value} {below : List Frame} {meth : Method} {c : Code} {G : Gw} {Q : State → Prop}  (C0 : Mx p s m c code 37 args yL_law.cls G) (Y : My meth (some .boolean)) (hl9 : l.stackTraces = false) (hend9 : ∀ (pc : Nat) (H : Heap) (locs : List Loc) (ls : Array Slot) (cells slots : Nat), decode code pc = .ok (.ireturn, 1) → va_S (Ab G.b) s.heap H locs → cells ≤ 668972 → slots ≤ 7086985 → W p l e room_1 s m args below meth c H locs cells slots Q (F0 m pc ls [.int 1])) {n9_670 : Nat} {n9_1504 : Nat} {k670 : Hp → Nat → Int32 → Nat → Nat → Nat → Nat → Nat → Nat → Nat → Nat → Nat → Nat → Int32 → Prop} (hk670 : ∀ (S : Hp) (v1 : Nat) (v2 : Int32) (v3 : Nat) (v4 : Nat) (v5 : Nat) (v6 : Nat) (v7 : Nat) (v8 : Nat) (v9 : Nat) (v10 : Nat) (v11 : Nat) (v12 : Nat) (v13 : Int32) (H : Heap) (locs : List Loc) (ls : Array Slot) (cells slots : Nat), k670 S v1 v2 v3 v4 v5 v6 v7 v8 v9 v10 v11 v12 v13 → Ok G S H → va_S (Ab G.b) s.heap H locs → lv_has ls 37 [(0, .ref G.xb), (1, .ref v1), (2, .int v2), (3, .ref v3), (4, .ref v4), (5, .ref v5), (6, .ref v6), (7, .ref v7), (8, .ref v8), (9, .ref v9), (10, .ref v10), (11, .ref v11), (12, .ref v12), (13, .int v13)] → cells + (n9_670 * 127 + 3) ≤ 668972 → slots + (n9_670 * 662 + 18) ≤ 7086985 → W p l e room_1 s m args below meth c H locs cells slots Q (F0 m 670 ls [])) {k1504 : Hp → Nat → Int32 → Nat → Nat → Nat → Nat → Nat → Nat → Nat → Nat → Nat → Nat → Int32 → Int32 → Prop} (hk1504 : ∀ (S : Hp) (v1 : Nat) (v2 : Int32) (v3 : Nat) (v4 : Nat) (v5 : Nat) (v6 : Nat) (v7 : Nat) (v8 : Nat) (v9 : Nat) (v10 : Nat) (v11 : Nat) (v12 : Nat) (v13 : Int32) (v20 : Int32) (H : Heap) (locs : List Loc) (ls : Array Slot) (cells slots : Nat), k1504 S v1 v2 v3 v4 v5 v6 v7 v8 v9 v10 v11 v12 v13 v20 → Ok G S H → va_S (Ab G.b) s.heap H locs → lv_has ls 37 [(0, .ref G.xb), (1, .ref v1), (2, .int v2), (3, .ref v3), (4, .ref v4), (5, .ref v5), (6, .ref v6), (7, .ref v7), (8, .ref v8), (9, .ref v9), (10, .ref v10), (11, .ref v11), (12, .ref v12), (13, .int v13), (20, .int v20)] → cells + (n9_670 * 127 + n9_1504 * 2 + 15) ≤ 668972 → slots + (n9_670 * 662 + n9_1504 * 12 + 90) ≤ 7086985 → W p l e room_1 s m args below meth c H locs cells slots Q (F0 m 1504 ls [])) : ∀ (S : Hp) (v1 : Nat) (v2 : Int32) (v3 : Nat) (v4 : Nat) (v5 : Nat) (v6 : Nat) (v7 : Nat) (v8 : Nat) (v9 : Nat) (v10 : Nat) (v11 : Nat) (v12 : Nat) (v13 : Int32) (v20 : Int32) (H : Heap) (locs : List Loc) (ls : Array Slot) (cells slots : Nat), wL_law_b1504 G.xs G.xl k670 k1504 S v1 v2 v3 v4 v5 v6 v7 v8 v9 v10 v11 v12 v13 v20 → Ok G S H → va_S (Ab G.b) s.heap H locs → lv_has ls 37 [(0, .ref G.xb), (1, .ref v1), (2, .int v2), (3, .ref v3), (4, .ref v4), (5, .ref v5), (6, .ref v6), (7, .ref v7), (8, .ref v8), (9, .ref v9), (10, .ref v10), (11, .ref v11), (12, .ref v12), (13, .int v13), (20, .int v20)] → cells + (n9_670 * 127 + n9_1504 * 2 + 17) ≤ 668972 → slots + (n9_670 * 662 + n9_1504 * 12 + 102) ≤ 7086985 → W p l e room_1 s m args below meth c H locs cells slots Q (F0 m 1504 ls []) := by
  intro S v1 v2 v3 v4 v5 v6 v7 v8 v9 v10 v11 v12 v13 v20 H locs ls cells slots h hO hS hl hcc hss
  unfold wL_law_b1504 at h
  refine lv_iload C0.1 C0.2.1 dL_law_1504 (lv_at hl 14 rfl) ?_
  refine lv_iconst (v := 5) C0.1 C0.2.1 dL_law_1506 (by decide) ?_
  refine lv_icmp_ge (tgt := 1554) C0.1 C0.2.1 dL_law_1507 (by decide) (fun c1 => ?_) (fun c1 => ?_)
  · replace h := h.1 c1
    refine lv_iconst (v := 0) C0.1 C0.2.1 dL_law_1554 (by decide) ?_
    refine lv_istore C0.1 C0.2.1 dL_law_1555 hl (by decide) rfl (fun ls hl => ?_)
    exact lL_law_b1557 C0 Y hl9 hend9 hk670 4 _ _ _ _ _ _ _ _ _ _ _ _ _ _ _ _ _ _ _ _ h hO hS (lv_sub hl [1, 2, 3, 4, 5, 6, 7, 8, 9, 10, 11, 12, 13, 14, 0] rfl) (by clear h; omega) (by clear h; omega)
  · replace h := h.2 c1
    refine lv_iload_n C0.1 C0.2.1 dL_law_1510 rfl (lv_at hl 2 rfl) ?_
    refine lv_aload_n C0.1 C0.2.1 dL_law_1511 rfl (lv_at hl 1 rfl) ?_
    refine lv_iload C0.1 C0.2.1 dL_law_1512 (lv_at hl 14 rfl) ?_
    refine c_SW C0 hO hS (mL_placeOver hl9 h) tb_814 tb_815 tb_26 tb_816 hd_L_placeOver rfl ⟨⟨by decide, by decide⟩, by show _ + 1 ≤ 668972; omega, by show _ + 6 ≤ 7086985; omega⟩ hl.1 rfl (Nat.le_of_ble_eq_true rfl) dL_law_1514 (kJ (fun r3 S2 H locs h hO hS => ?_))
    change W _ _ _ _ _ _ _ _ _ _ _ _ (_ + 1) (_ + 6) _ _
    refine lv_aload C0.1 C0.2.1 dL_law_1517 (lv_at hl 8 rfl) ?_
    refine lv_iload C0.1 C0.2.1 dL_law_1519 (lv_at hl 14 rfl) ?_
    obtain ⟨i4, h⟩ := h
    obtain ⟨e5, h⟩ := h
    refine r_lald C0 hO i4 e5 dL_law_1521 ?_
    refine W.lcmp C0.1 C0.2.1 dL_law_1522 ?_
    refine lv_if_ne (tgt := 1545) C0.1 C0.2.1 dL_law_1523 (by decide) (fun c6 => ?_) (fun c6 => ?_)
    · replace h := h.1 c6
      exact bL_law_b1545 C0 Y hl9 hend9 hk670 hk1504 _ _ _ _ _ _ _ _ _ _ _ _ _ _ _ _ _ _ _ _ h hO hS (lv_sub hl [0, 1, 3, 4, 5, 6, 7, 8, 9, 10, 11, 12, 13, 14] rfl) (by clear h; omega) (by clear h; omega)
    · replace h := h.2 c6
      refine lv_aload_n C0.1 C0.2.1 dL_law_1526 rfl (lv_at hl 1 rfl) ?_
      refine lv_iload C0.1 C0.2.1 dL_law_1527 (lv_at hl 14 rfl) ?_
      refine c_SW C0 hO hS (mL_placeUnder hl9 h) tb_822 tb_823 tb_26 tb_824 hd_L_placeUnder rfl ⟨⟨by decide, by decide⟩, by show _ + 1 ≤ 668972; omega, by show _ + 6 ≤ 7086985; omega⟩ hl.1 rfl (Nat.le_of_ble_eq_true rfl) dL_law_1529 (kJ (fun r8 S7 H locs h hO hS => ?_))
      change W _ _ _ _ _ _ _ _ _ _ _ _ (_ + 1) (_ + 6) _ _
      refine lv_aload C0.1 C0.2.1 dL_law_1532 (lv_at hl 9 rfl) ?_
      refine lv_iload C0.1 C0.2.1 dL_law_1534 (lv_at hl 14 rfl) ?_
      obtain ⟨i9, h⟩ := h
      obtain ⟨e10, h⟩ := h
      refine r_lald C0 hO i9 e10 dL_law_1536 ?_
      refine W.lcmp C0.1 C0.2.1 dL_law_1537 ?_
      refine lv_if_ne (tgt := 1545) C0.1 C0.2.1 dL_law_1538 (by decide) (fun c11 => ?_) (fun c11 => ?_)
      · replace h := h.1 c11
        exact bL_law_b1545 C0 Y hl9 hend9 hk670 hk1504 _ _ _ _ _ _ _ _ _ _ _ _ _ _ _ _ _ _ _ _ h hO hS (lv_sub hl [0, 1, 3, 4, 5, 6, 7, 8, 9, 10, 11, 12, 13, 14] rfl) (by clear h; omega) (by clear h; omega)
      · replace h := h.2 c11
        refine lv_iconst (v := 1) C0.1 C0.2.1 dL_law_1541 (by decide) ?_
        refine lv_goto (tgt := 1546) C0.1 C0.2.1 dL_law_1542 (by decide) ?_
        exact bL_law_b1546 C0 Y hl9 hend9 hk670 hk1504 _ _ _ _ _ _ _ _ _ _ _ _ _ _ _ _ _ _ _ _ _ h hO hS (lv_sub hl [0, 1, 3, 4, 5, 6, 7, 8, 9, 10, 11, 12, 13, 14] rfl) (by clear h; omega) (by clear h; omega)
set_option maxHeartbeats 4000000 in
set_option maxRecDepth 100000 in
theorem lL_law_b1504 {p : Program} {l : Launch} {e : Env} {s : State} {m : MethodId} {args : Array Value} {below : List Frame} {meth : Method} {c : Code} {G : Gw} {Q : State → Prop}  (C0 : Mx p s m c code 37 args yL_law.cls G) (Y : My meth (some .boolean)) (hl9 : l.stackTraces = false) (hend9 : ∀ (pc : Nat) (H : Heap) (locs : List Loc) (ls : Array Slot) (cells slots : Nat), decode code pc = .ok (.ireturn, 1) → va_S (Ab G.b) s.heap H locs → cells ≤ 668972 → slots ≤ 7086985 → W p l e room_1 s m args below meth c H locs cells slots Q (F0 m pc ls [.int 1])) {n9_670 : Nat} {k670 : Hp → Nat → Int32 → Nat → Nat → Nat → Nat → Nat → Nat → Nat → Nat → Nat → Nat → Int32 → Prop} (hk670 : ∀ (S : Hp) (v1 : Nat) (v2 : Int32) (v3 : Nat) (v4 : Nat) (v5 : Nat) (v6 : Nat) (v7 : Nat) (v8 : Nat) (v9 : Nat) (v10 : Nat) (v11 : Nat) (v12 : Nat) (v13 : Int32) (H : Heap) (locs : List Loc) (ls : Array Slot) (cells slots : Nat), k670 S v1 v2 v3 v4 v5 v6 v7 v8 v9 v10 v11 v12 v13 → Ok G S H → va_S (Ab G.b) s.heap H locs → lv_has ls 37 [(0, .ref G.xb), (1, .ref v1), (2, .int v2), (3, .ref v3), (4, .ref v4), (5, .ref v5), (6, .ref v6), (7, .ref v7), (8, .ref v8), (9, .ref v9), (10, .ref v10), (11, .ref v11), (12, .ref v12), (13, .int v13)] → cells + (n9_670 * 127 + 3) ≤ 668972 → slots + (n9_670 * 662 + 18) ≤ 7086985 → W p l e room_1 s m args below meth c H locs cells slots Q (F0 m 670 ls [])) : ∀ n9 : Nat, ∀ (S : Hp) (v1 : Nat) (v2 : Int32) (v3 : Nat) (v4 : Nat) (v5 : Nat) (v6 : Nat) (v7 : Nat) (v8 : Nat) (v9 : Nat) (v10 : Nat) (v11 : Nat) (v12 : Nat) (v13 : Int32) (v20 : Int32) (H : Heap) (locs : List Loc) (ls : Array Slot) (cells slots : Nat), it15 (wL_law_b1504 G.xs G.xl k670) n9 S v1 v2 v3 v4 v5 v6 v7 v8 v9 v10 v11 v12 v13 v20 → Ok G S H → va_S (Ab G.b) s.heap H locs → lv_has ls 37 [(0, .ref G.xb), (1, .ref v1), (2, .int v2), (3, .ref v3), (4, .ref v4), (5, .ref v5), (6, .ref v6), (7, .ref v7), (8, .ref v8), (9, .ref v9), (10, .ref v10), (11, .ref v11), (12, .ref v12), (13, .int v13), (20, .int v20)] → cells + (n9_670 * 127 + n9 * 2 + 15) ≤ 668972 → slots + (n9_670 * 662 + n9 * 12 + 90) ≤ 7086985 → W p l e room_1 s m args below meth c H locs cells slots Q (F0 m 1504 ls []) := by
  intro n9
  induction n9 with
  | zero => intro S v1 v2 v3 v4 v5 v6 v7 v8 v9 v10 v11 v12 v13 v20 H locs ls cells slots h; exact (h : False).elim
  | succ n9 ih => intro S v1 v2 v3 v4 v5 v6 v7 v8 v9 v10 v11 v12 v13 v20 H locs ls cells slots h hO hS hl hcc hss; exact bL_law_b1504 C0 Y hl9 hend9 (n9_1504 := n9) hk670 ih S v1 v2 v3 v4 v5 v6 v7 v8 v9 v10 v11 v12 v13 v20 H locs ls cells slots h hO hS hl (by omega) (by omega)
def wL_law_b1499 (x0 : (Nat → Int32)) (L9 : Nat) (k670 : Hp → Nat → Int32 → Nat → Nat → Nat → Nat → Nat → Nat → Nat → Nat → Nat → Nat → Int32 → Prop) (S : Hp) (v1 : Nat) (v3 : Nat) (v4 : Nat) (v5 : Nat) (v6 : Nat) (v7 : Nat) (v8 : Nat) (v9 : Nat) (v10 : Nat) (v11 : Nat) (v12 : Nat) (v13 : Int32) (z0 : Int32) (z1 : Int32) : Prop := it15 (wL_law_b1504 x0 L9 k670) 6 S v1 (z0 &&& z1) v3 v4 v5 v6 v7 v8 v9 v10 v11 v12 v13 0
set_option maxHeartbeats 4000000 in
set_option maxRecDepth 100000 in
theorem bL_law_b1499 {p : Program} {l : Launch} {e : Env} {s : State} {m : MethodId} {args : Array Value} {below : List Frame} {meth : Method} {c : Code} {G : Gw} {Q : State → Prop}  (C0 : Mx p s m c code 37 args yL_law.cls G) (Y : My meth (some .boolean)) (hl9 : l.stackTraces = false) (hend9 : ∀ (pc : Nat) (H : Heap) (locs : List Loc) (ls : Array Slot) (cells slots : Nat), decode code pc = .ok (.ireturn, 1) → va_S (Ab G.b) s.heap H locs → cells ≤ 668972 → slots ≤ 7086985 → W p l e room_1 s m args below meth c H locs cells slots Q (F0 m pc ls [.int 1])) {n9_670 : Nat} {k670 : Hp → Nat → Int32 → Nat → Nat → Nat → Nat → Nat → Nat → Nat → Nat → Nat → Nat → Int32 → Prop} (hk670 : ∀ (S : Hp) (v1 : Nat) (v2 : Int32) (v3 : Nat) (v4 : Nat) (v5 : Nat) (v6 : Nat) (v7 : Nat) (v8 : Nat) (v9 : Nat) (v10 : Nat) (v11 : Nat) (v12 : Nat) (v13 : Int32) (H : Heap) (locs : List Loc) (ls : Array Slot) (cells slots : Nat), k670 S v1 v2 v3 v4 v5 v6 v7 v8 v9 v10 v11 v12 v13 → Ok G S H → va_S (Ab G.b) s.heap H locs → lv_has ls 37 [(0, .ref G.xb), (1, .ref v1), (2, .int v2), (3, .ref v3), (4, .ref v4), (5, .ref v5), (6, .ref v6), (7, .ref v7), (8, .ref v8), (9, .ref v9), (10, .ref v10), (11, .ref v11), (12, .ref v12), (13, .int v13)] → cells + (n9_670 * 127 + 3) ≤ 668972 → slots + (n9_670 * 662 + 18) ≤ 7086985 → W p l e room_1 s m args below meth c H locs cells slots Q (F0 m 670 ls [])) : ∀ (S : Hp) (v1 : Nat) (v3 : Nat) (v4 : Nat) (v5 : Nat) (v6 : Nat) (v7 : Nat) (v8 : Nat) (v9 : Nat) (v10 : Nat) (v11 : Nat) (v12 : Nat) (v13 : Int32) (z0 : Int32) (z1 : Int32) (H : Heap) (locs : List Loc) (ls : Array Slot) (cells slots : Nat), wL_law_b1499 G.xs G.xl k670 S v1 v3 v4 v5 v6 v7 v8 v9 v10 v11 v12 v13 z0 z1 → Ok G S H → va_S (Ab G.b) s.heap H locs → lv_has ls 37 [(0, .ref G.xb), (1, .ref v1), (3, .ref v3), (4, .ref v4), (5, .ref v5), (6, .ref v6), (7, .ref v7), (8, .ref v8), (9, .ref v9), (10, .ref v10), (11, .ref v11), (12, .ref v12), (13, .int v13)] → cells + (n9_670 * 127 + 27) ≤ 668972 → slots + (n9_670 * 662 + 162) ≤ 7086985 → W p l e room_1 s m args below meth c H locs cells slots Q (F0 m 1499 ls [.int z1, .int z0]) := by
  intro S v1 v3 v4 v5 v6 v7 v8 v9 v10 v11 v12 v13 z0 z1 H locs ls cells slots h hO hS hl hcc hss
  unfold wL_law_b1499 at h
  refine lv_iand C0.1 C0.2.1 dL_law_1499 ?_
  refine lv_istore_n C0.1 C0.2.1 dL_law_1500 rfl hl (by decide) rfl (fun ls hl => ?_)
  refine lv_iconst (v := 0) C0.1 C0.2.1 dL_law_1501 (by decide) ?_
  refine lv_istore C0.1 C0.2.1 dL_law_1502 hl (by decide) rfl (fun ls hl => ?_)
  exact lL_law_b1504 C0 Y hl9 hend9 hk670 6 _ _ _ _ _ _ _ _ _ _ _ _ _ _ _ _ _ _ _ _ h hO hS (lv_sub hl [2, 3, 1, 4, 5, 6, 7, 8, 9, 10, 11, 12, 13, 14, 0] rfl) (by clear h; omega) (by clear h; omega)
def wL_law_b1430 (x0 : (Nat → Int32)) (L9 : Nat) (k670 : Hp → Nat → Int32 → Nat → Nat → Nat → Nat → Nat → Nat → Nat → Nat → Nat → Nat → Int32 → Prop) (k1430 : Hp → Nat → Int32 → Nat → Nat → Nat → Nat → Nat → Nat → Nat → Nat → Nat → Nat → Int32 → Int32 → Int32 → Nat → Nat → Int32 → Int32 → Prop) (S : Hp) (v1 : Nat) (v2 : Int32) (v3 : Nat) (v4 : Nat) (v5 : Nat) (v6 : Nat) (v7 : Nat) (v8 : Nat) (v9 : Nat) (v10 : Nat) (v11 : Nat) (v12 : Nat) (v13 : Int32) (v14 : Int32) (v15 : Int32) (v17 : Nat) (v18 : Nat) (v19 : Int32) (v20 : Int32) : Prop := ((5 ≤ v20 → wL_turn S v1 v14 v15 (fun S2 r3 => ((¬ r3 = v19 → wL_law_b1499 x0 L9 k670 S2 v1 v3 v4 v5 v6 v7 v8 v9 v10 v11 v12 v13 v2 0) ∧ (r3 = v19 → wL_law_b1499 x0 L9 k670 S2 v1 v3 v4 v5 v6 v7 v8 v9 v10 v11 v12 v13 v2 1)))) ∧ (¬ (5 ≤ v20) → isA S v8 22 ∧ vp_in v20 (S.N v8) ∧ isA S v17 22 ∧ vp_in v20 (S.N v17) ∧ ((¬ (lg_cmp (S.AJ v8 v20.toNatClampNeg) (S.AJ v17 v20.toNatClampNeg)) = 0 → wL_law_b1470 x0 L9 k670 k1430 S v1 v2 v3 v4 v5 v6 v7 v8 v9 v10 v11 v12 v13 v14 v15 v17 v18 v20 v19) ∧ ((lg_cmp (S.AJ v8 v20.toNatClampNeg) (S.AJ v17 v20.toNatClampNeg)) = 0 → isA S v9 22 ∧ vp_in v20 (S.N v9) ∧ isA S v18 22 ∧ vp_in v20 (S.N v18) ∧ ((¬ (lg_cmp (S.AJ v9 v20.toNatClampNeg) (S.AJ v18 v20.toNatClampNeg)) = 0 → wL_law_b1470 x0 L9 k670 k1430 S v1 v2 v3 v4 v5 v6 v7 v8 v9 v10 v11 v12 v13 v14 v15 v17 v18 v20 v19) ∧ ((lg_cmp (S.AJ v9 v20.toNatClampNeg) (S.AJ v18 v20.toNatClampNeg)) = 0 → wL_law_b1471 x0 L9 k670 k1430 S v1 v2 v3 v4 v5 v6 v7 v8 v9 v10 v11 v12 v13 v14 v15 v17 v18 v20 v19 0))))))
set_option maxHeartbeats 4000000 in
set_option maxRecDepth 100000 in
theorem bL_law_b1430 {p : Program} {l : Launch} {e : Env} {s : State} {m : MethodId} {args : Array Value} {below : List Frame} {meth : Method} {c : Code} {G : Gw} {Q : State → Prop}  (C0 : Mx p s m c code 37 args yL_law.cls G) (Y : My meth (some .boolean)) (hl9 : l.stackTraces = false) (hend9 : ∀ (pc : Nat) (H : Heap) (locs : List Loc) (ls : Array Slot) (cells slots : Nat), decode code pc = .ok (.ireturn, 1) → va_S (Ab G.b) s.heap H locs → cells ≤ 668972 → slots ≤ 7086985 → W p l e room_1 s m args below meth c H locs cells slots Q (F0 m pc ls [.int 1])) {n9_670 : Nat} {k670 : Hp → Nat → Int32 → Nat → Nat → Nat → Nat → Nat → Nat → Nat → Nat → Nat → Nat → Int32 → Prop} (hk670 : ∀ (S : Hp) (v1 : Nat) (v2 : Int32) (v3 : Nat) (v4 : Nat) (v5 : Nat) (v6 : Nat) (v7 : Nat) (v8 : Nat) (v9 : Nat) (v10 : Nat) (v11 : Nat) (v12 : Nat) (v13 : Int32) (H : Heap) (locs : List Loc) (ls : Array Slot) (cells slots : Nat), k670 S v1 v2 v3 v4 v5 v6 v7 v8 v9 v10 v11 v12 v13 → Ok G S H → va_S (Ab G.b) s.heap H locs → lv_has ls 37 [(0, .ref G.xb), (1, .ref v1), (2, .int v2), (3, .ref v3), (4, .ref v4), (5, .ref v5), (6, .ref v6), (7, .ref v7), (8, .ref v8), (9, .ref v9), (10, .ref v10), (11, .ref v11), (12, .ref v12), (13, .int v13)] → cells + (n9_670 * 127 + 3) ≤ 668972 → slots + (n9_670 * 662 + 18) ≤ 7086985 → W p l e room_1 s m args below meth c H locs cells slots Q (F0 m 670 ls [])) {k1430 : Hp → Nat → Int32 → Nat → Nat → Nat → Nat → Nat → Nat → Nat → Nat → Nat → Nat → Int32 → Int32 → Int32 → Nat → Nat → Int32 → Int32 → Prop} (hk1430 : ∀ (S : Hp) (v1 : Nat) (v2 : Int32) (v3 : Nat) (v4 : Nat) (v5 : Nat) (v6 : Nat) (v7 : Nat) (v8 : Nat) (v9 : Nat) (v10 : Nat) (v11 : Nat) (v12 : Nat) (v13 : Int32) (v14 : Int32) (v15 : Int32) (v17 : Nat) (v18 : Nat) (v19 : Int32) (v20 : Int32) (H : Heap) (locs : List Loc) (ls : Array Slot) (cells slots : Nat), k1430 S v1 v2 v3 v4 v5 v6 v7 v8 v9 v10 v11 v12 v13 v14 v15 v17 v18 v19 v20 → Ok G S H → va_S (Ab G.b) s.heap H locs → lv_has ls 37 [(0, .ref G.xb), (1, .ref v1), (2, .int v2), (3, .ref v3), (4, .ref v4), (5, .ref v5), (6, .ref v6), (7, .ref v7), (8, .ref v8), (9, .ref v9), (10, .ref v10), (11, .ref v11), (12, .ref v12), (13, .int v13), (14, .int v14), (15, .int v15), (17, .ref v17), (18, .ref v18), (19, .int v19), (20, .int v20)] → cells + (n9_670 * 127 + 30) ≤ 668972 → slots + (n9_670 * 662 + 180) ≤ 7086985 → W p l e room_1 s m args below meth c H locs cells slots Q (F0 m 1430 ls [])) : ∀ (S : Hp) (v1 : Nat) (v2 : Int32) (v3 : Nat) (v4 : Nat) (v5 : Nat) (v6 : Nat) (v7 : Nat) (v8 : Nat) (v9 : Nat) (v10 : Nat) (v11 : Nat) (v12 : Nat) (v13 : Int32) (v14 : Int32) (v15 : Int32) (v17 : Nat) (v18 : Nat) (v19 : Int32) (v20 : Int32) (H : Heap) (locs : List Loc) (ls : Array Slot) (cells slots : Nat), wL_law_b1430 G.xs G.xl k670 k1430 S v1 v2 v3 v4 v5 v6 v7 v8 v9 v10 v11 v12 v13 v14 v15 v17 v18 v19 v20 → Ok G S H → va_S (Ab G.b) s.heap H locs → lv_has ls 37 [(0, .ref G.xb), (1, .ref v1), (2, .int v2), (3, .ref v3), (4, .ref v4), (5, .ref v5), (6, .ref v6), (7, .ref v7), (8, .ref v8), (9, .ref v9), (10, .ref v10), (11, .ref v11), (12, .ref v12), (13, .int v13), (14, .int v14), (15, .int v15), (17, .ref v17), (18, .ref v18), (19, .int v19), (20, .int v20)] → cells + (n9_670 * 127 + 30) ≤ 668972 → slots + (n9_670 * 662 + 180) ≤ 7086985 → W p l e room_1 s m args below meth c H locs cells slots Q (F0 m 1430 ls []) := by
  intro S v1 v2 v3 v4 v5 v6 v7 v8 v9 v10 v11 v12 v13 v14 v15 v17 v18 v19 v20 H locs ls cells slots h hO hS hl hcc hss
  unfold wL_law_b1430 at h
  refine lv_iload C0.1 C0.2.1 dL_law_1430 (lv_at hl 19 rfl) ?_
  refine lv_iconst (v := 5) C0.1 C0.2.1 dL_law_1432 (by decide) ?_
  refine lv_icmp_ge (tgt := 1480) C0.1 C0.2.1 dL_law_1433 (by decide) (fun c1 => ?_) (fun c1 => ?_)
  · replace h := h.1 c1
    refine lv_iload_n C0.1 C0.2.1 dL_law_1480 rfl (lv_at hl 2 rfl) ?_
    refine lv_aload_n C0.1 C0.2.1 dL_law_1481 rfl (lv_at hl 1 rfl) ?_
    refine lv_iload C0.1 C0.2.1 dL_law_1482 (lv_at hl 14 rfl) ?_
    refine lv_iload C0.1 C0.2.1 dL_law_1484 (lv_at hl 15 rfl) ?_
    refine c_SW C0 hO hS (mL_turn hl9 h) tb_731 tb_732 tb_26 tb_733 hd_L_turn rfl ⟨⟨by decide, by decide⟩, by show _ + 3 ≤ 668972; omega, by show _ + 18 ≤ 7086985; omega⟩ hl.1 rfl (Nat.le_of_ble_eq_true rfl) dL_law_1486 (kI (fun r3 S2 H locs h hO hS => ?_))
    change W _ _ _ _ _ _ _ _ _ _ _ _ (_ + 3) (_ + 18) _ _
    refine lv_iload C0.1 C0.2.1 dL_law_1489 (lv_at hl 18 rfl) ?_
    refine lv_icmp_ne (tgt := 1498) C0.1 C0.2.1 dL_law_1491 (by decide) (fun c4 => ?_) (fun c4 => ?_)
    · replace h := h.1 c4
      refine lv_iconst (v := 0) C0.1 C0.2.1 dL_law_1498 (by decide) ?_
      exact bL_law_b1499 C0 Y hl9 hend9 hk670 _ _ _ _ _ _ _ _ _ _ _ _ _ _ _ _ _ _ _ _ h hO hS (lv_sub hl [0, 1, 3, 4, 5, 6, 7, 8, 9, 10, 11, 12, 13] rfl) (by clear h; omega) (by clear h; omega)
    · replace h := h.2 c4
      refine lv_iconst (v := 1) C0.1 C0.2.1 dL_law_1494 (by decide) ?_
      refine lv_goto (tgt := 1499) C0.1 C0.2.1 dL_law_1495 (by decide) ?_
      exact bL_law_b1499 C0 Y hl9 hend9 hk670 _ _ _ _ _ _ _ _ _ _ _ _ _ _ _ _ _ _ _ _ h hO hS (lv_sub hl [0, 1, 3, 4, 5, 6, 7, 8, 9, 10, 11, 12, 13] rfl) (by clear h; omega) (by clear h; omega)
  · replace h := h.2 c1
    refine lv_iload C0.1 C0.2.1 dL_law_1436 (lv_at hl 18 rfl) ?_
    refine lv_aload C0.1 C0.2.1 dL_law_1438 (lv_at hl 8 rfl) ?_
    refine lv_iload C0.1 C0.2.1 dL_law_1440 (lv_at hl 19 rfl) ?_
    obtain ⟨i5, h⟩ := h
    obtain ⟨e6, h⟩ := h
    refine r_lald C0 hO i5 e6 dL_law_1442 ?_
    refine lv_aload C0.1 C0.2.1 dL_law_1443 (lv_at hl 16 rfl) ?_
    refine lv_iload C0.1 C0.2.1 dL_law_1445 (lv_at hl 19 rfl) ?_
    obtain ⟨i7, h⟩ := h
    obtain ⟨e8, h⟩ := h
    refine r_lald C0 hO i7 e8 dL_law_1447 ?_
    refine W.lcmp C0.1 C0.2.1 dL_law_1448 ?_
    refine lv_if_ne (tgt := 1470) C0.1 C0.2.1 dL_law_1449 (by decide) (fun c9 => ?_) (fun c9 => ?_)
    · replace h := h.1 c9
      exact bL_law_b1470 C0 Y hl9 hend9 hk670 hk1430 _ _ _ _ _ _ _ _ _ _ _ _ _ _ _ _ _ _ _ _ _ _ _ _ _ h hO hS (lv_sub hl [0, 1, 2, 3, 4, 5, 6, 7, 8, 9, 10, 11, 12, 13, 14, 15, 16, 17, 19] rfl) (by clear h; omega) (by clear h; omega)
    · replace h := h.2 c9
      refine lv_aload C0.1 C0.2.1 dL_law_1452 (lv_at hl 9 rfl) ?_
      refine lv_iload C0.1 C0.2.1 dL_law_1454 (lv_at hl 19 rfl) ?_
      obtain ⟨i10, h⟩ := h
      obtain ⟨e11, h⟩ := h
      refine r_lald C0 hO i10 e11 dL_law_1456 ?_
      refine lv_aload C0.1 C0.2.1 dL_law_1457 (lv_at hl 17 rfl) ?_
      refine lv_iload C0.1 C0.2.1 dL_law_1459 (lv_at hl 19 rfl) ?_
      obtain ⟨i12, h⟩ := h
      obtain ⟨e13, h⟩ := h
      refine r_lald C0 hO i12 e13 dL_law_1461 ?_
      refine W.lcmp C0.1 C0.2.1 dL_law_1462 ?_
      refine lv_if_ne (tgt := 1470) C0.1 C0.2.1 dL_law_1463 (by decide) (fun c14 => ?_) (fun c14 => ?_)
      · replace h := h.1 c14
        exact bL_law_b1470 C0 Y hl9 hend9 hk670 hk1430 _ _ _ _ _ _ _ _ _ _ _ _ _ _ _ _ _ _ _ _ _ _ _ _ _ h hO hS (lv_sub hl [0, 1, 2, 3, 4, 5, 6, 7, 8, 9, 10, 11, 12, 13, 14, 15, 16, 17, 19] rfl) (by clear h; omega) (by clear h; omega)
      · replace h := h.2 c14
        refine lv_iconst (v := 0) C0.1 C0.2.1 dL_law_1466 (by decide) ?_
        refine lv_goto (tgt := 1471) C0.1 C0.2.1 dL_law_1467 (by decide) ?_
        exact bL_law_b1471 C0 Y hl9 hend9 hk670 hk1430 _ _ _ _ _ _ _ _ _ _ _ _ _ _ _ _ _ _ _ _ _ _ _ _ _ _ h hO hS (lv_sub hl [0, 1, 2, 3, 4, 5, 6, 7, 8, 9, 10, 11, 12, 13, 14, 15, 16, 17, 19] rfl) (by clear h; omega) (by clear h; omega)
set_option maxHeartbeats 4000000 in
set_option maxRecDepth 100000 in
theorem lL_law_b1430 {p : Program} {l : Launch} {e : Env} {s : State} {m : MethodId} {args : Array Value} {below : List Frame} {meth : Method} {c : Code} {G : Gw} {Q : State → Prop}  (C0 : Mx p s m c code 37 args yL_law.cls G) (Y : My meth (some .boolean)) (hl9 : l.stackTraces = false) (hend9 : ∀ (pc : Nat) (H : Heap) (locs : List Loc) (ls : Array Slot) (cells slots : Nat), decode code pc = .ok (.ireturn, 1) → va_S (Ab G.b) s.heap H locs → cells ≤ 668972 → slots ≤ 7086985 → W p l e room_1 s m args below meth c H locs cells slots Q (F0 m pc ls [.int 1])) {n9_670 : Nat} {k670 : Hp → Nat → Int32 → Nat → Nat → Nat → Nat → Nat → Nat → Nat → Nat → Nat → Nat → Int32 → Prop} (hk670 : ∀ (S : Hp) (v1 : Nat) (v2 : Int32) (v3 : Nat) (v4 : Nat) (v5 : Nat) (v6 : Nat) (v7 : Nat) (v8 : Nat) (v9 : Nat) (v10 : Nat) (v11 : Nat) (v12 : Nat) (v13 : Int32) (H : Heap) (locs : List Loc) (ls : Array Slot) (cells slots : Nat), k670 S v1 v2 v3 v4 v5 v6 v7 v8 v9 v10 v11 v12 v13 → Ok G S H → va_S (Ab G.b) s.heap H locs → lv_has ls 37 [(0, .ref G.xb), (1, .ref v1), (2, .int v2), (3, .ref v3), (4, .ref v4), (5, .ref v5), (6, .ref v6), (7, .ref v7), (8, .ref v8), (9, .ref v9), (10, .ref v10), (11, .ref v11), (12, .ref v12), (13, .int v13)] → cells + (n9_670 * 127 + 3) ≤ 668972 → slots + (n9_670 * 662 + 18) ≤ 7086985 → W p l e room_1 s m args below meth c H locs cells slots Q (F0 m 670 ls [])) : ∀ n9 : Nat, ∀ (S : Hp) (v1 : Nat) (v2 : Int32) (v3 : Nat) (v4 : Nat) (v5 : Nat) (v6 : Nat) (v7 : Nat) (v8 : Nat) (v9 : Nat) (v10 : Nat) (v11 : Nat) (v12 : Nat) (v13 : Int32) (v14 : Int32) (v15 : Int32) (v17 : Nat) (v18 : Nat) (v19 : Int32) (v20 : Int32) (H : Heap) (locs : List Loc) (ls : Array Slot) (cells slots : Nat), it20 (wL_law_b1430 G.xs G.xl k670) n9 S v1 v2 v3 v4 v5 v6 v7 v8 v9 v10 v11 v12 v13 v14 v15 v17 v18 v19 v20 → Ok G S H → va_S (Ab G.b) s.heap H locs → lv_has ls 37 [(0, .ref G.xb), (1, .ref v1), (2, .int v2), (3, .ref v3), (4, .ref v4), (5, .ref v5), (6, .ref v6), (7, .ref v7), (8, .ref v8), (9, .ref v9), (10, .ref v10), (11, .ref v11), (12, .ref v12), (13, .int v13), (14, .int v14), (15, .int v15), (17, .ref v17), (18, .ref v18), (19, .int v19), (20, .int v20)] → cells + (n9_670 * 127 + 30) ≤ 668972 → slots + (n9_670 * 662 + 180) ≤ 7086985 → W p l e room_1 s m args below meth c H locs cells slots Q (F0 m 1430 ls []) := by
  intro n9
  induction n9 with
  | zero => intro S v1 v2 v3 v4 v5 v6 v7 v8 v9 v10 v11 v12 v13 v14 v15 v17 v18 v19 v20 H locs ls cells slots h; exact (h : False).elim
  | succ n9 ih => intro S v1 v2 v3 v4 v5 v6 v7 v8 v9 v10 v11 v12 v13 v14 v15 v17 v18 v19 v20 H locs ls cells slots h hO hS hl hcc hss; exact bL_law_b1430 C0 Y hl9 hend9 hk670 ih S v1 v2 v3 v4 v5 v6 v7 v8 v9 v10 v11 v12 v13 v14 v15 v17 v18 v19 v20 H locs ls cells slots h hO hS hl (by omega) (by omega)
def wL_law_b747 (x0 : (Nat → Int32)) (L9 : Nat) (k670 : Hp → Nat → Int32 → Nat → Nat → Nat → Nat → Nat → Nat → Nat → Nat → Nat → Nat → Int32 → Prop) (k747 : Hp → Nat → Int32 → Nat → Nat → Nat → Nat → Nat → Nat → Nat → Nat → Nat → Nat → Int32 → Int32 → Int32 → Int32 → Nat → Nat → Int32 → Prop) (S : Hp) (v1 : Nat) (v2 : Int32) (v3 : Nat) (v4 : Nat) (v5 : Nat) (v6 : Nat) (v7 : Nat) (v8 : Nat) (v9 : Nat) (v10 : Nat) (v11 : Nat) (v12 : Nat) (v13 : Int32) (v14 : Int32) (v15 : Int32) (v16 : Int32) (v17 : Nat) (v18 : Nat) (v19 : Int32) : Prop := (((v15 * v16) ≤ v19 → ∃ n, it20 (wL_law_b1430 x0 L9 k670) n S v1 v2 v3 v4 v5 v6 v7 v8 v9 v10 v11 v12 v13 v14 v15 v17 v18 0 0) ∧ (¬ ((v15 * v16) ≤ v19) → ∀ a2 S3, a2 ∉ S.L → S3 = S.new a2 22 5 → ∀ a4 S5, a4 ∉ S3.L → S5 = S3.new a4 22 5 → vp_in 0 (S5.N a4) ∧ ∀ S7, S7 = S5.setAJ a4 ((0 : Int32).toNatClampNeg) 1 → vp_in 1 (S7.N a4) ∧ ∀ S9, S9 = S7.setAJ a4 ((1 : Int32).toNatClampNeg) 1 → vp_in 2 (S9.N a4) ∧ ∀ S11, S11 = S9.setAJ a4 ((2 : Int32).toNatClampNeg) 1 → vp_in 3 (S11.N a4) ∧ ∀ S13, S13 = S11.setAJ a4 ((3 : Int32).toNatClampNeg) 1 → vp_in 4 (S13.N a4) ∧ ∀ S15, S15 = S13.setAJ a4 ((4 : Int32).toNatClampNeg) 1 → vp_in v14 (S15.N a2) ∧ ∀ S17, S17 = S15.setAJ a2 v14.toNatClampNeg v16.toInt64 → vp_in v14 (S17.N a4) ∧ ∀ S19, S19 = S17.setAJ a4 v14.toNatClampNeg 24 → ∃ n, it23 (wL_law_b806 x0 L9 k670 k747) n S19 v1 v2 v3 v4 v5 v6 v7 v8 v9 v10 v11 v12 v13 v14 v15 v16 v17 v18 v19 a2 a4 0))
set_option maxHeartbeats 4000000 in
set_option maxRecDepth 100000 in
theorem bL_law_b747 {p : Program} {l : Launch} {e : Env} {s : State} {m : MethodId} {args : Array Value} {below : List Frame} {meth : Method} {c : Code} {G : Gw} {Q : State → Prop}  (C0 : Mx p s m c code 37 args yL_law.cls G) (Y : My meth (some .boolean)) (hl9 : l.stackTraces = false) (hend9 : ∀ (pc : Nat) (H : Heap) (locs : List Loc) (ls : Array Slot) (cells slots : Nat), decode code pc = .ok (.ireturn, 1) → va_S (Ab G.b) s.heap H locs → cells ≤ 668972 → slots ≤ 7086985 → W p l e room_1 s m args below meth c H locs cells slots Q (F0 m pc ls [.int 1])) {n9_670 : Nat} {n9_747 : Nat} {k670 : Hp → Nat → Int32 → Nat → Nat → Nat → Nat → Nat → Nat → Nat → Nat → Nat → Nat → Int32 → Prop} (hk670 : ∀ (S : Hp) (v1 : Nat) (v2 : Int32) (v3 : Nat) (v4 : Nat) (v5 : Nat) (v6 : Nat) (v7 : Nat) (v8 : Nat) (v9 : Nat) (v10 : Nat) (v11 : Nat) (v12 : Nat) (v13 : Int32) (H : Heap) (locs : List Loc) (ls : Array Slot) (cells slots : Nat), k670 S v1 v2 v3 v4 v5 v6 v7 v8 v9 v10 v11 v12 v13 → Ok G S H → va_S (Ab G.b) s.heap H locs → lv_has ls 37 [(0, .ref G.xb), (1, .ref v1), (2, .int v2), (3, .ref v3), (4, .ref v4), (5, .ref v5), (6, .ref v6), (7, .ref v7), (8, .ref v8), (9, .ref v9), (10, .ref v10), (11, .ref v11), (12, .ref v12), (13, .int v13)] → cells + (n9_670 * 127 + 3) ≤ 668972 → slots + (n9_670 * 662 + 18) ≤ 7086985 → W p l e room_1 s m args below meth c H locs cells slots Q (F0 m 670 ls [])) {k747 : Hp → Nat → Int32 → Nat → Nat → Nat → Nat → Nat → Nat → Nat → Nat → Nat → Nat → Int32 → Int32 → Int32 → Int32 → Nat → Nat → Int32 → Prop} (hk747 : ∀ (S : Hp) (v1 : Nat) (v2 : Int32) (v3 : Nat) (v4 : Nat) (v5 : Nat) (v6 : Nat) (v7 : Nat) (v8 : Nat) (v9 : Nat) (v10 : Nat) (v11 : Nat) (v12 : Nat) (v13 : Int32) (v14 : Int32) (v15 : Int32) (v16 : Int32) (v17 : Nat) (v18 : Nat) (v19 : Int32) (H : Heap) (locs : List Loc) (ls : Array Slot) (cells slots : Nat), k747 S v1 v2 v3 v4 v5 v6 v7 v8 v9 v10 v11 v12 v13 v14 v15 v16 v17 v18 v19 → Ok G S H → va_S (Ab G.b) s.heap H locs → lv_has ls 37 [(0, .ref G.xb), (1, .ref v1), (2, .int v2), (3, .ref v3), (4, .ref v4), (5, .ref v5), (6, .ref v6), (7, .ref v7), (8, .ref v8), (9, .ref v9), (10, .ref v10), (11, .ref v11), (12, .ref v12), (13, .int v13), (14, .int v14), (15, .int v15), (16, .int v16), (17, .ref v17), (18, .ref v18), (19, .int v19)] → cells + (n9_670 * 127 + n9_747 * 2 + 30) ≤ 668972 → slots + (n9_670 * 662 + n9_747 * 10 + 180) ≤ 7086985 → W p l e room_1 s m args below meth c H locs cells slots Q (F0 m 747 ls [])) : ∀ (S : Hp) (v1 : Nat) (v2 : Int32) (v3 : Nat) (v4 : Nat) (v5 : Nat) (v6 : Nat) (v7 : Nat) (v8 : Nat) (v9 : Nat) (v10 : Nat) (v11 : Nat) (v12 : Nat) (v13 : Int32) (v14 : Int32) (v15 : Int32) (v16 : Int32) (v17 : Nat) (v18 : Nat) (v19 : Int32) (H : Heap) (locs : List Loc) (ls : Array Slot) (cells slots : Nat), wL_law_b747 G.xs G.xl k670 k747 S v1 v2 v3 v4 v5 v6 v7 v8 v9 v10 v11 v12 v13 v14 v15 v16 v17 v18 v19 → Ok G S H → va_S (Ab G.b) s.heap H locs → lv_has ls 37 [(0, .ref G.xb), (1, .ref v1), (2, .int v2), (3, .ref v3), (4, .ref v4), (5, .ref v5), (6, .ref v6), (7, .ref v7), (8, .ref v8), (9, .ref v9), (10, .ref v10), (11, .ref v11), (12, .ref v12), (13, .int v13), (14, .int v14), (15, .int v15), (16, .int v16), (17, .ref v17), (18, .ref v18), (19, .int v19)] → cells + (n9_670 * 127 + n9_747 * 2 + 32) ≤ 668972 → slots + (n9_670 * 662 + n9_747 * 10 + 190) ≤ 7086985 → W p l e room_1 s m args below meth c H locs cells slots Q (F0 m 747 ls []) := by
  intro S v1 v2 v3 v4 v5 v6 v7 v8 v9 v10 v11 v12 v13 v14 v15 v16 v17 v18 v19 H locs ls cells slots h hO hS hl hcc hss
  unfold wL_law_b747 at h
  refine lv_iload C0.1 C0.2.1 dL_law_747 (lv_at hl 19 rfl) ?_
  refine lv_iload C0.1 C0.2.1 dL_law_749 (lv_at hl 15 rfl) ?_
  refine lv_iload C0.1 C0.2.1 dL_law_751 (lv_at hl 16 rfl) ?_
  refine lv_imul C0.1 C0.2.1 dL_law_753 ?_
  refine lv_icmp_ge (tgt := 1424) C0.1 C0.2.1 dL_law_754 (by decide) (fun c1 => ?_) (fun c1 => ?_)
  · replace h := h.1 c1
    refine lv_iconst (v := 0) C0.1 C0.2.1 dL_law_1424 (by decide) ?_
    refine lv_istore C0.1 C0.2.1 dL_law_1425 hl (by decide) rfl (fun ls hl => ?_)
    refine lv_iconst (v := 0) C0.1 C0.2.1 dL_law_1427 (by decide) ?_
    refine lv_istore C0.1 C0.2.1 dL_law_1428 hl (by decide) rfl (fun ls hl => ?_)
    obtain ⟨n9, h⟩ := h
    exact lL_law_b1430 C0 Y hl9 hend9 hk670 n9 _ _ _ _ _ _ _ _ _ _ _ _ _ _ _ _ _ _ _ _ _ _ _ _ _ h hO hS (lv_sub hl [2, 3, 4, 5, 6, 7, 8, 9, 10, 11, 12, 13, 14, 15, 16, 17, 19, 20, 1, 0] rfl) (by clear h; omega) (by clear h; omega)
  · replace h := h.2 c1
    refine lv_iconst (v := 5) C0.1 C0.2.1 dL_law_757 (by decide) ?_
    refine n_22k (k := 5) C0 hO hS (by decide) (by show _ ≤ 668972; omega) (by show _ ≤ 7086985; omega) dL_law_758 (fun a2 H hna2 hO hS => ?_)
    replace h := h a2 _ hna2 rfl
    refine lv_astore C0.1 C0.2.1 dL_law_760 hl (by decide) rfl (fun ls hl => ?_)
    refine lv_iconst (v := 5) C0.1 C0.2.1 dL_law_762 (by decide) ?_
    refine n_22k (k := 5) C0 hO hS (by decide) (by show _ ≤ 668972; omega) (by show _ ≤ 7086985; omega) dL_law_763 (fun a4 H hna4 hO hS => ?_)
    replace h := h a4 _ hna4 rfl
    refine lv_dup C0.1 C0.2.1 dL_law_765 rfl ?_
    refine lv_iconst (v := 0) C0.1 C0.2.1 dL_law_766 (by decide) ?_
    refine lv_lconst (v := 1) C0.1 C0.2.1 dL_law_767 (by decide) ?_
    obtain ⟨e6, h⟩ := h
    refine r_last C0 hO hS new_isA e6 dL_law_768 (fun H locs hO hS => ?_)
    replace h := h _ rfl
    refine lv_dup C0.1 C0.2.1 dL_law_769 rfl ?_
    refine lv_iconst (v := 1) C0.1 C0.2.1 dL_law_770 (by decide) ?_
    refine lv_lconst (v := 1) C0.1 C0.2.1 dL_law_771 (by decide) ?_
    obtain ⟨e8, h⟩ := h
    refine r_last C0 hO hS (sA_AJ new_isA) e8 dL_law_772 (fun H locs hO hS => ?_)
    replace h := h _ rfl
    refine lv_dup C0.1 C0.2.1 dL_law_773 rfl ?_
    refine lv_iconst (v := 2) C0.1 C0.2.1 dL_law_774 (by decide) ?_
    refine lv_lconst (v := 1) C0.1 C0.2.1 dL_law_775 (by decide) ?_
    obtain ⟨e10, h⟩ := h
    refine r_last C0 hO hS (sA_AJ (sA_AJ new_isA)) e10 dL_law_776 (fun H locs hO hS => ?_)
    replace h := h _ rfl
    refine lv_dup C0.1 C0.2.1 dL_law_777 rfl ?_
    refine lv_iconst (v := 3) C0.1 C0.2.1 dL_law_778 (by decide) ?_
    refine lv_lconst (v := 1) C0.1 C0.2.1 dL_law_779 (by decide) ?_
    obtain ⟨e12, h⟩ := h
    refine r_last C0 hO hS (sA_AJ (sA_AJ (sA_AJ new_isA))) e12 dL_law_780 (fun H locs hO hS => ?_)
    replace h := h _ rfl
    refine lv_dup C0.1 C0.2.1 dL_law_781 rfl ?_
    refine lv_iconst (v := 4) C0.1 C0.2.1 dL_law_782 (by decide) ?_
    refine lv_lconst (v := 1) C0.1 C0.2.1 dL_law_783 (by decide) ?_
    obtain ⟨e14, h⟩ := h
    refine r_last C0 hO hS (sA_AJ (sA_AJ (sA_AJ (sA_AJ new_isA)))) e14 dL_law_784 (fun H locs hO hS => ?_)
    replace h := h _ rfl
    refine lv_astore C0.1 C0.2.1 dL_law_785 hl (by decide) rfl (fun ls hl => ?_)
    refine lv_aload C0.1 C0.2.1 dL_law_787 (lv_at hl 1 rfl) ?_
    refine lv_iload C0.1 C0.2.1 dL_law_789 (lv_at hl 16 rfl) ?_
    refine lv_iload C0.1 C0.2.1 dL_law_791 (lv_at hl 18 rfl) ?_
    refine lv_i2l C0.1 C0.2.1 dL_law_793 rfl ?_
    obtain ⟨e16, h⟩ := h
    refine r_last C0 hO hS (sA_AJ (sA_AJ (sA_AJ (sA_AJ (sA_AJ (new_old (n := 5) hna4 new_isA)))))) e16 dL_law_794 (fun H locs hO hS => ?_)
    replace h := h _ rfl
    refine lv_aload C0.1 C0.2.1 dL_law_795 (lv_at hl 0 rfl) ?_
    refine lv_iload C0.1 C0.2.1 dL_law_797 (lv_at hl 16 rfl) ?_
    refine lv_ldc2 (v := 24) C0.1 C0.2.1 C0.2.2.2.1 (C0.2.2.2.2.1 _ tb_863) dL_law_799 ?_
    obtain ⟨e18, h⟩ := h
    refine r_last C0 hO hS (sA_AJ (sA_AJ (sA_AJ (sA_AJ (sA_AJ (sA_AJ new_isA)))))) e18 dL_law_802 (fun H locs hO hS => ?_)
    replace h := h _ rfl
    refine lv_iconst (v := 0) C0.1 C0.2.1 dL_law_803 (by decide) ?_
    refine lv_istore C0.1 C0.2.1 dL_law_804 hl (by decide) rfl (fun ls hl => ?_)
    obtain ⟨n9, h⟩ := h
    exact lL_law_b806 C0 Y hl9 hend9 hk670 hk747 n9 _ _ _ _ _ _ _ _ _ _ _ _ _ _ _ _ _ _ _ _ _ _ _ _ _ _ _ _ h hO hS (lv_sub hl [3, 4, 5, 6, 7, 8, 9, 10, 11, 12, 13, 14, 15, 16, 17, 18, 19, 20, 21, 22, 2, 1, 0] rfl) (by clear h; omega) (by clear h; omega)
set_option maxHeartbeats 4000000 in
set_option maxRecDepth 100000 in
theorem lL_law_b747 {p : Program} {l : Launch} {e : Env} {s : State} {m : MethodId} {args : Array Value} {below : List Frame} {meth : Method} {c : Code} {G : Gw} {Q : State → Prop}  (C0 : Mx p s m c code 37 args yL_law.cls G) (Y : My meth (some .boolean)) (hl9 : l.stackTraces = false) (hend9 : ∀ (pc : Nat) (H : Heap) (locs : List Loc) (ls : Array Slot) (cells slots : Nat), decode code pc = .ok (.ireturn, 1) → va_S (Ab G.b) s.heap H locs → cells ≤ 668972 → slots ≤ 7086985 → W p l e room_1 s m args below meth c H locs cells slots Q (F0 m pc ls [.int 1])) {n9_670 : Nat} {k670 : Hp → Nat → Int32 → Nat → Nat → Nat → Nat → Nat → Nat → Nat → Nat → Nat → Nat → Int32 → Prop} (hk670 : ∀ (S : Hp) (v1 : Nat) (v2 : Int32) (v3 : Nat) (v4 : Nat) (v5 : Nat) (v6 : Nat) (v7 : Nat) (v8 : Nat) (v9 : Nat) (v10 : Nat) (v11 : Nat) (v12 : Nat) (v13 : Int32) (H : Heap) (locs : List Loc) (ls : Array Slot) (cells slots : Nat), k670 S v1 v2 v3 v4 v5 v6 v7 v8 v9 v10 v11 v12 v13 → Ok G S H → va_S (Ab G.b) s.heap H locs → lv_has ls 37 [(0, .ref G.xb), (1, .ref v1), (2, .int v2), (3, .ref v3), (4, .ref v4), (5, .ref v5), (6, .ref v6), (7, .ref v7), (8, .ref v8), (9, .ref v9), (10, .ref v10), (11, .ref v11), (12, .ref v12), (13, .int v13)] → cells + (n9_670 * 127 + 3) ≤ 668972 → slots + (n9_670 * 662 + 18) ≤ 7086985 → W p l e room_1 s m args below meth c H locs cells slots Q (F0 m 670 ls [])) : ∀ n9 : Nat, ∀ (S : Hp) (v1 : Nat) (v2 : Int32) (v3 : Nat) (v4 : Nat) (v5 : Nat) (v6 : Nat) (v7 : Nat) (v8 : Nat) (v9 : Nat) (v10 : Nat) (v11 : Nat) (v12 : Nat) (v13 : Int32) (v14 : Int32) (v15 : Int32) (v16 : Int32) (v17 : Nat) (v18 : Nat) (v19 : Int32) (H : Heap) (locs : List Loc) (ls : Array Slot) (cells slots : Nat), it20 (wL_law_b747 G.xs G.xl k670) n9 S v1 v2 v3 v4 v5 v6 v7 v8 v9 v10 v11 v12 v13 v14 v15 v16 v17 v18 v19 → Ok G S H → va_S (Ab G.b) s.heap H locs → lv_has ls 37 [(0, .ref G.xb), (1, .ref v1), (2, .int v2), (3, .ref v3), (4, .ref v4), (5, .ref v5), (6, .ref v6), (7, .ref v7), (8, .ref v8), (9, .ref v9), (10, .ref v10), (11, .ref v11), (12, .ref v12), (13, .int v13), (14, .int v14), (15, .int v15), (16, .int v16), (17, .ref v17), (18, .ref v18), (19, .int v19)] → cells + (n9_670 * 127 + n9 * 2 + 30) ≤ 668972 → slots + (n9_670 * 662 + n9 * 10 + 180) ≤ 7086985 → W p l e room_1 s m args below meth c H locs cells slots Q (F0 m 747 ls []) := by
  intro n9
  induction n9 with
  | zero => intro S v1 v2 v3 v4 v5 v6 v7 v8 v9 v10 v11 v12 v13 v14 v15 v16 v17 v18 v19 H locs ls cells slots h; exact (h : False).elim
  | succ n9 ih => intro S v1 v2 v3 v4 v5 v6 v7 v8 v9 v10 v11 v12 v13 v14 v15 v16 v17 v18 v19 H locs ls cells slots h hO hS hl hcc hss; exact bL_law_b747 C0 Y hl9 hend9 (n9_747 := n9) hk670 ih S v1 v2 v3 v4 v5 v6 v7 v8 v9 v10 v11 v12 v13 v14 v15 v16 v17 v18 v19 H locs ls cells slots h hO hS hl (by omega) (by omega)
def wL_law_b722 (x0 : (Nat → Int32)) (L9 : Nat) (k670 : Hp → Nat → Int32 → Nat → Nat → Nat → Nat → Nat → Nat → Nat → Nat → Nat → Nat → Int32 → Prop) (S : Hp) (v1 : Nat) (v2 : Int32) (v3 : Nat) (v4 : Nat) (v5 : Nat) (v6 : Nat) (v7 : Nat) (v8 : Nat) (v9 : Nat) (v10 : Nat) (v11 : Nat) (v12 : Nat) (v13 : Int32) (v14 : Int32) (v15 : Int32) (z0 : Int32) : Prop := isA S v8 22 ∧ S.N v8 ≤ 5 ∧ ∀ a2 S3, a2 ∉ S.L → S3 = (S.new a2 22 (S.N v8)).putAJ a2 (S.AJ v8) → isA S3 v9 22 ∧ S3.N v9 ≤ 5 ∧ ∀ a6 S7, a6 ∉ S3.L → S7 = (S3.new a6 22 (S3.N v9)).putAJ a6 (S3.AJ v9) → it20 (wL_law_b747 x0 L9 k670) 49 S7 v1 v2 v3 v4 v5 v6 v7 v8 v9 v10 v11 v12 v13 v14 v15 z0 a2 a6 0
set_option maxHeartbeats 4000000 in
set_option maxRecDepth 100000 in
theorem bL_law_b722 {p : Program} {l : Launch} {e : Env} {s : State} {m : MethodId} {args : Array Value} {below : List Frame} {meth : Method} {c : Code} {G : Gw} {Q : State → Prop}  (C0 : Mx p s m c code 37 args yL_law.cls G) (Y : My meth (some .boolean)) (hl9 : l.stackTraces = false) (hend9 : ∀ (pc : Nat) (H : Heap) (locs : List Loc) (ls : Array Slot) (cells slots : Nat), decode code pc = .ok (.ireturn, 1) → va_S (Ab G.b) s.heap H locs → cells ≤ 668972 → slots ≤ 7086985 → W p l e room_1 s m args below meth c H locs cells slots Q (F0 m pc ls [.int 1])) {n9_670 : Nat} {k670 : Hp → Nat → Int32 → Nat → Nat → Nat → Nat → Nat → Nat → Nat → Nat → Nat → Nat → Int32 → Prop} (hk670 : ∀ (S : Hp) (v1 : Nat) (v2 : Int32) (v3 : Nat) (v4 : Nat) (v5 : Nat) (v6 : Nat) (v7 : Nat) (v8 : Nat) (v9 : Nat) (v10 : Nat) (v11 : Nat) (v12 : Nat) (v13 : Int32) (H : Heap) (locs : List Loc) (ls : Array Slot) (cells slots : Nat), k670 S v1 v2 v3 v4 v5 v6 v7 v8 v9 v10 v11 v12 v13 → Ok G S H → va_S (Ab G.b) s.heap H locs → lv_has ls 37 [(0, .ref G.xb), (1, .ref v1), (2, .int v2), (3, .ref v3), (4, .ref v4), (5, .ref v5), (6, .ref v6), (7, .ref v7), (8, .ref v8), (9, .ref v9), (10, .ref v10), (11, .ref v11), (12, .ref v12), (13, .int v13)] → cells + (n9_670 * 127 + 3) ≤ 668972 → slots + (n9_670 * 662 + 18) ≤ 7086985 → W p l e room_1 s m args below meth c H locs cells slots Q (F0 m 670 ls [])) : ∀ (S : Hp) (v1 : Nat) (v2 : Int32) (v3 : Nat) (v4 : Nat) (v5 : Nat) (v6 : Nat) (v7 : Nat) (v8 : Nat) (v9 : Nat) (v10 : Nat) (v11 : Nat) (v12 : Nat) (v13 : Int32) (v14 : Int32) (v15 : Int32) (z0 : Int32) (H : Heap) (locs : List Loc) (ls : Array Slot) (cells slots : Nat), wL_law_b722 G.xs G.xl k670 S v1 v2 v3 v4 v5 v6 v7 v8 v9 v10 v11 v12 v13 v14 v15 z0 → Ok G S H → va_S (Ab G.b) s.heap H locs → lv_has ls 37 [(0, .ref G.xb), (1, .ref v1), (2, .int v2), (3, .ref v3), (4, .ref v4), (5, .ref v5), (6, .ref v6), (7, .ref v7), (8, .ref v8), (9, .ref v9), (10, .ref v10), (11, .ref v11), (12, .ref v12), (13, .int v13), (14, .int v14), (15, .int v15)] → cells + (n9_670 * 127 + 130) ≤ 668972 → slots + (n9_670 * 662 + 680) ≤ 7086985 → W p l e room_1 s m args below meth c H locs cells slots Q (F0 m 722 ls [.int z0]) := by
  intro S v1 v2 v3 v4 v5 v6 v7 v8 v9 v10 v11 v12 v13 v14 v15 z0 H locs ls cells slots h hO hS hl hcc hss
  unfold wL_law_b722 at h
  refine lv_istore C0.1 C0.2.1 dL_law_722 hl (by decide) rfl (fun ls hl => ?_)
  refine lv_aload C0.1 C0.2.1 dL_law_724 (lv_at hl 9 rfl) ?_
  obtain ⟨i1, h⟩ := h
  obtain ⟨e4, h⟩ := h
  refine r_clone C0 hO hS hl.1 i1 e4 tb_856 tb_857 tb_858 tb_859 tb_860 (by show _ ≤ 668972; omega) (by show _ + 5 ≤ 7086985; omega) (Nat.le_of_ble_eq_true rfl) (Nat.le_of_ble_eq_true rfl) dL_law_726 (fun a2 H hna2 hO hS => ?_)
  replace h := h a2 _ hna2 rfl
  refine r_castL C0 hO (sA_putAJ new_isA) tb_862 dL_law_729 ?_
  refine lv_astore C0.1 C0.2.1 dL_law_732 hl (by decide) rfl (fun ls hl => ?_)
  refine lv_aload C0.1 C0.2.1 dL_law_734 (lv_at hl 11 rfl) ?_
  obtain ⟨i5, h⟩ := h
  obtain ⟨e8, h⟩ := h
  refine r_clone C0 hO hS hl.1 i5 e8 tb_856 tb_857 tb_858 tb_859 tb_860 (by show _ ≤ 668972; omega) (by show _ + 5 ≤ 7086985; omega) (Nat.le_of_ble_eq_true rfl) (Nat.le_of_ble_eq_true rfl) dL_law_736 (fun a6 H hna6 hO hS => ?_)
  replace h := h a6 _ hna6 rfl
  refine r_castL C0 hO (sA_putAJ new_isA) tb_862 dL_law_739 ?_
  refine lv_astore C0.1 C0.2.1 dL_law_742 hl (by decide) rfl (fun ls hl => ?_)
  refine lv_iconst (v := 0) C0.1 C0.2.1 dL_law_744 (by decide) ?_
  refine lv_istore C0.1 C0.2.1 dL_law_745 hl (by decide) rfl (fun ls hl => ?_)
  exact lL_law_b747 C0 Y hl9 hend9 hk670 49 _ _ _ _ _ _ _ _ _ _ _ _ _ _ _ _ _ _ _ _ _ _ _ _ _ h hO hS (lv_sub hl [4, 5, 6, 7, 8, 9, 10, 11, 12, 13, 14, 15, 16, 17, 18, 19, 3, 2, 1, 0] rfl) (by clear h; omega) (by clear h; omega)
def wL_law_b694 (x0 : (Nat → Int32)) (L9 : Nat) (k670 : Hp → Nat → Int32 → Nat → Nat → Nat → Nat → Nat → Nat → Nat → Nat → Nat → Nat → Int32 → Prop) (S : Hp) (v1 : Nat) (v2 : Int32) (v3 : Nat) (v4 : Nat) (v5 : Nat) (v6 : Nat) (v7 : Nat) (v8 : Nat) (v9 : Nat) (v10 : Nat) (v11 : Nat) (v12 : Nat) (v13 : Int32) (z0 : Int32) : Prop := wL_in S x0 L9 (20 + v13) 97 (fun S1 r2 => ((0 ≤ (r2 - 48) → wL_law_b722 x0 L9 k670 S1 v1 v2 v3 v4 v5 v6 v7 v8 v9 v10 v11 v12 v13 z0 (r2 - 48) 1) ∧ (¬ (0 ≤ (r2 - 48)) → wL_law_b722 x0 L9 k670 S1 v1 v2 v3 v4 v5 v6 v7 v8 v9 v10 v11 v12 v13 z0 (r2 - 48) (-1))))
set_option maxHeartbeats 4000000 in
set_option maxRecDepth 100000 in
theorem bL_law_b694 {p : Program} {l : Launch} {e : Env} {s : State} {m : MethodId} {args : Array Value} {below : List Frame} {meth : Method} {c : Code} {G : Gw} {Q : State → Prop}  (C0 : Mx p s m c code 37 args yL_law.cls G) (Y : My meth (some .boolean)) (hl9 : l.stackTraces = false) (hend9 : ∀ (pc : Nat) (H : Heap) (locs : List Loc) (ls : Array Slot) (cells slots : Nat), decode code pc = .ok (.ireturn, 1) → va_S (Ab G.b) s.heap H locs → cells ≤ 668972 → slots ≤ 7086985 → W p l e room_1 s m args below meth c H locs cells slots Q (F0 m pc ls [.int 1])) {n9_670 : Nat} {k670 : Hp → Nat → Int32 → Nat → Nat → Nat → Nat → Nat → Nat → Nat → Nat → Nat → Nat → Int32 → Prop} (hk670 : ∀ (S : Hp) (v1 : Nat) (v2 : Int32) (v3 : Nat) (v4 : Nat) (v5 : Nat) (v6 : Nat) (v7 : Nat) (v8 : Nat) (v9 : Nat) (v10 : Nat) (v11 : Nat) (v12 : Nat) (v13 : Int32) (H : Heap) (locs : List Loc) (ls : Array Slot) (cells slots : Nat), k670 S v1 v2 v3 v4 v5 v6 v7 v8 v9 v10 v11 v12 v13 → Ok G S H → va_S (Ab G.b) s.heap H locs → lv_has ls 37 [(0, .ref G.xb), (1, .ref v1), (2, .int v2), (3, .ref v3), (4, .ref v4), (5, .ref v5), (6, .ref v6), (7, .ref v7), (8, .ref v8), (9, .ref v9), (10, .ref v10), (11, .ref v11), (12, .ref v12), (13, .int v13)] → cells + (n9_670 * 127 + 3) ≤ 668972 → slots + (n9_670 * 662 + 18) ≤ 7086985 → W p l e room_1 s m args below meth c H locs cells slots Q (F0 m 670 ls [])) : ∀ (S : Hp) (v1 : Nat) (v2 : Int32) (v3 : Nat) (v4 : Nat) (v5 : Nat) (v6 : Nat) (v7 : Nat) (v8 : Nat) (v9 : Nat) (v10 : Nat) (v11 : Nat) (v12 : Nat) (v13 : Int32) (z0 : Int32) (H : Heap) (locs : List Loc) (ls : Array Slot) (cells slots : Nat), wL_law_b694 G.xs G.xl k670 S v1 v2 v3 v4 v5 v6 v7 v8 v9 v10 v11 v12 v13 z0 → Ok G S H → va_S (Ab G.b) s.heap H locs → lv_has ls 37 [(0, .ref G.xb), (1, .ref v1), (2, .int v2), (3, .ref v3), (4, .ref v4), (5, .ref v5), (6, .ref v6), (7, .ref v7), (8, .ref v8), (9, .ref v9), (10, .ref v10), (11, .ref v11), (12, .ref v12), (13, .int v13)] → cells + (n9_670 * 127 + 130) ≤ 668972 → slots + (n9_670 * 662 + 680) ≤ 7086985 → W p l e room_1 s m args below meth c H locs cells slots Q (F0 m 694 ls [.int z0]) := by
  intro S v1 v2 v3 v4 v5 v6 v7 v8 v9 v10 v11 v12 v13 z0 H locs ls cells slots h hO hS hl hcc hss
  unfold wL_law_b694 at h
  refine lv_istore C0.1 C0.2.1 dL_law_694 hl (by decide) rfl (fun ls hl => ?_)
  refine lv_aload_n C0.1 C0.2.1 dL_law_696 rfl (lv_at hl 1 rfl) ?_
  refine lv_bipush (v := 20) C0.1 C0.2.1 dL_law_697 (by decide) ?_
  refine lv_iload C0.1 C0.2.1 dL_law_699 (lv_at hl 14 rfl) ?_
  refine lv_iadd C0.1 C0.2.1 dL_law_701 ?_
  refine lv_bipush (v := 97) C0.1 C0.2.1 dL_law_702 (by decide) ?_
  refine c_S C0 hO hS (mL_in h) tb_843 tb_844 tb_26 tb_845 hd_L_in rfl ⟨⟨by decide, by decide⟩, by show _ + 0 ≤ 668972; omega, by show _ + 0 ≤ 7086985; omega⟩ hl.1 rfl (Nat.le_of_ble_eq_true rfl) dL_law_704 (kI (fun r2 S1 H locs h hO hS => ?_))
  change W _ _ _ _ _ _ _ _ _ _ _ _ (_ + 0) (_ + 0) _ _
  refine lv_bipush (v := 48) C0.1 C0.2.1 dL_law_707 (by decide) ?_
  refine lv_isub C0.1 C0.2.1 dL_law_709 ?_
  refine lv_istore C0.1 C0.2.1 dL_law_710 hl (by decide) rfl (fun ls hl => ?_)
  refine lv_iload C0.1 C0.2.1 dL_law_712 (lv_at hl 0 rfl) ?_
  refine lv_if_ge (tgt := 721) C0.1 C0.2.1 dL_law_714 (by decide) (fun c3 => ?_) (fun c3 => ?_)
  · replace h := h.1 c3
    refine lv_iconst (v := 1) C0.1 C0.2.1 dL_law_721 (by decide) ?_
    exact bL_law_b722 C0 Y hl9 hend9 hk670 _ _ _ _ _ _ _ _ _ _ _ _ _ _ _ _ _ _ _ _ _ _ h hO hS (lv_sub hl [2, 3, 4, 5, 6, 7, 8, 9, 10, 11, 12, 13, 14, 15, 1, 0] rfl) (by clear h; omega) (by clear h; omega)
  · replace h := h.2 c3
    refine lv_iconst (v := (-1)) C0.1 C0.2.1 dL_law_717 (by decide) ?_
    refine lv_goto (tgt := 722) C0.1 C0.2.1 dL_law_718 (by decide) ?_
    exact bL_law_b722 C0 Y hl9 hend9 hk670 _ _ _ _ _ _ _ _ _ _ _ _ _ _ _ _ _ _ _ _ _ _ h hO hS (lv_sub hl [2, 3, 4, 5, 6, 7, 8, 9, 10, 11, 12, 13, 14, 15, 1, 0] rfl) (by clear h; omega) (by clear h; omega)
def wL_law_b670 (x0 : (Nat → Int32)) (L9 : Nat) (k670 : Hp → Nat → Int32 → Nat → Nat → Nat → Nat → Nat → Nat → Nat → Nat → Nat → Nat → Int32 → Prop) (S : Hp) (v1 : Nat) (v2 : Int32) (v3 : Nat) (v4 : Nat) (v5 : Nat) (v6 : Nat) (v7 : Nat) (v8 : Nat) (v9 : Nat) (v10 : Nat) (v11 : Nat) (v12 : Nat) (v13 : Int32) : Prop := ((5 ≤ v13 → ((v2 = 0 → False) ∧ (¬ (v2 = 0) → wL_placeOver S v1 5 (fun S3 r4 => ((¬ (lg_cmp r4 (-900001)) = 0 → False) ∧ ((lg_cmp r4 (-900001)) = 0 → wL_wornOver S3 v1 3 (fun S6 r7 => ((¬ (lg_cmp r7 (-900001)) = 0 → False) ∧ ((lg_cmp r7 (-900001)) = 0 → isA S6 v1 7 ∧ wX7_drivenShare S6 v1 (fun S9 r10 => ((¬ (Op.cmpValue (FP.fcmp r10 (1058642330 : UInt32)) .l) = 0 → False) ∧ ((Op.cmpValue (FP.fcmp r10 (1058642330 : UInt32)) .l) = 0 → isA S9 v1 7 ∧ wX7_isSound S9 v1 (fun S13 r14 => ((r14 = 0 → False) ∧ (¬ (r14 = 0) → True)))))) (fun S9 E9 => False)))))))))) ∧ (¬ (5 ≤ v13) → wL_in S x0 L9 (10 + v13) 2 (fun S17 r18 => ((¬ r18 = 0 → wL_law_b694 x0 L9 k670 S17 v1 v2 v3 v4 v5 v6 v7 v8 v9 v10 v11 v12 v13 3) ∧ (r18 = 0 → wL_law_b694 x0 L9 k670 S17 v1 v2 v3 v4 v5 v6 v7 v8 v9 v10 v11 v12 v13 0)))))
set_option maxHeartbeats 4000000 in
set_option maxRecDepth 100000 in
theorem bL_law_b670 {p : Program} {l : Launch} {e : Env} {s : State} {m : MethodId} {args : Array Value} {below : List Frame} {meth : Method} {c : Code} {G : Gw} {Q : State → Prop}  (C0 : Mx p s m c code 37 args yL_law.cls G) (Y : My meth (some .boolean)) (hl9 : l.stackTraces = false) (hend9 : ∀ (pc : Nat) (H : Heap) (locs : List Loc) (ls : Array Slot) (cells slots : Nat), decode code pc = .ok (.ireturn, 1) → va_S (Ab G.b) s.heap H locs → cells ≤ 668972 → slots ≤ 7086985 → W p l e room_1 s m args below meth c H locs cells slots Q (F0 m pc ls [.int 1])) {n9_670 : Nat} {k670 : Hp → Nat → Int32 → Nat → Nat → Nat → Nat → Nat → Nat → Nat → Nat → Nat → Nat → Int32 → Prop} (hk670 : ∀ (S : Hp) (v1 : Nat) (v2 : Int32) (v3 : Nat) (v4 : Nat) (v5 : Nat) (v6 : Nat) (v7 : Nat) (v8 : Nat) (v9 : Nat) (v10 : Nat) (v11 : Nat) (v12 : Nat) (v13 : Int32) (H : Heap) (locs : List Loc) (ls : Array Slot) (cells slots : Nat), k670 S v1 v2 v3 v4 v5 v6 v7 v8 v9 v10 v11 v12 v13 → Ok G S H → va_S (Ab G.b) s.heap H locs → lv_has ls 37 [(0, .ref G.xb), (1, .ref v1), (2, .int v2), (3, .ref v3), (4, .ref v4), (5, .ref v5), (6, .ref v6), (7, .ref v7), (8, .ref v8), (9, .ref v9), (10, .ref v10), (11, .ref v11), (12, .ref v12), (13, .int v13)] → cells + (n9_670 * 127 + 3) ≤ 668972 → slots + (n9_670 * 662 + 18) ≤ 7086985 → W p l e room_1 s m args below meth c H locs cells slots Q (F0 m 670 ls [])) : ∀ (S : Hp) (v1 : Nat) (v2 : Int32) (v3 : Nat) (v4 : Nat) (v5 : Nat) (v6 : Nat) (v7 : Nat) (v8 : Nat) (v9 : Nat) (v10 : Nat) (v11 : Nat) (v12 : Nat) (v13 : Int32) (H : Heap) (locs : List Loc) (ls : Array Slot) (cells slots : Nat), wL_law_b670 G.xs G.xl k670 S v1 v2 v3 v4 v5 v6 v7 v8 v9 v10 v11 v12 v13 → Ok G S H → va_S (Ab G.b) s.heap H locs → lv_has ls 37 [(0, .ref G.xb), (1, .ref v1), (2, .int v2), (3, .ref v3), (4, .ref v4), (5, .ref v5), (6, .ref v6), (7, .ref v7), (8, .ref v8), (9, .ref v9), (10, .ref v10), (11, .ref v11), (12, .ref v12), (13, .int v13)] → cells + (n9_670 * 127 + 130) ≤ 668972 → slots + (n9_670 * 662 + 680) ≤ 7086985 → W p l e room_1 s m args below meth c H locs cells slots Q (F0 m 670 ls []) := by
  intro S v1 v2 v3 v4 v5 v6 v7 v8 v9 v10 v11 v12 v13 H locs ls cells slots h hO hS hl hcc hss
  unfold wL_law_b670 at h
  refine lv_iload C0.1 C0.2.1 dL_law_670 (lv_at hl 13 rfl) ?_
  refine lv_iconst (v := 5) C0.1 C0.2.1 dL_law_672 (by decide) ?_
  refine lv_icmp_ge (tgt := 1622) C0.1 C0.2.1 dL_law_673 (by decide) (fun c1 => ?_) (fun c1 => ?_)
  · replace h := h.1 c1
    refine lv_iload_n C0.1 C0.2.1 dL_law_1622 rfl (lv_at hl 2 rfl) ?_
    refine lv_if_eq (tgt := 1671) C0.1 C0.2.1 dL_law_1623 (by decide) (fun c2 => ?_) (fun c2 => ?_)
    · replace h := h.1 c2
      refine lv_iconst (v := 0) C0.1 C0.2.1 dL_law_1671 (by decide) ?_
      exact h.elim
    · replace h := h.2 c2
      refine lv_aload_n C0.1 C0.2.1 dL_law_1626 rfl (lv_at hl 1 rfl) ?_
      refine lv_iconst (v := 5) C0.1 C0.2.1 dL_law_1627 (by decide) ?_
      refine c_SW C0 hO hS (mL_placeOver hl9 h) tb_814 tb_815 tb_26 tb_816 hd_L_placeOver rfl ⟨⟨by decide, by decide⟩, by show _ + 1 ≤ 668972; omega, by show _ + 6 ≤ 7086985; omega⟩ hl.1 rfl (Nat.le_of_ble_eq_true rfl) dL_law_1628 (kJ (fun r4 S3 H locs h hO hS => ?_))
      change W _ _ _ _ _ _ _ _ _ _ _ _ (_ + 1) (_ + 6) _ _
      refine lv_ldc2 (v := (-900001)) C0.1 C0.2.1 C0.2.2.2.1 (C0.2.2.2.2.1 _ tb_821) dL_law_1631 ?_
      refine W.lcmp C0.1 C0.2.1 dL_law_1634 ?_
      refine lv_if_ne (tgt := 1671) C0.1 C0.2.1 dL_law_1635 (by decide) (fun c5 => ?_) (fun c5 => ?_)
      · replace h := h.1 c5
        refine lv_iconst (v := 0) C0.1 C0.2.1 dL_law_1671 (by decide) ?_
        exact h.elim
      · replace h := h.2 c5
        refine lv_aload_n C0.1 C0.2.1 dL_law_1638 rfl (lv_at hl 1 rfl) ?_
        refine lv_iconst (v := 3) C0.1 C0.2.1 dL_law_1639 (by decide) ?_
        refine c_SW C0 hO hS (mL_wornOver hl9 h) tb_829 tb_830 tb_26 tb_831 hd_L_wornOver rfl ⟨⟨by decide, by decide⟩, by show _ + 1 ≤ 668972; omega, by show _ + 6 ≤ 7086985; omega⟩ hl.1 rfl (Nat.le_of_ble_eq_true rfl) dL_law_1640 (kJ (fun r7 S6 H locs h hO hS => ?_))
        change W _ _ _ _ _ _ _ _ _ _ _ _ (_ + 1) (_ + 6) _ _
        refine lv_ldc2 (v := (-900001)) C0.1 C0.2.1 C0.2.2.2.1 (C0.2.2.2.2.1 _ tb_821) dL_law_1643 ?_
        refine W.lcmp C0.1 C0.2.1 dL_law_1646 ?_
        refine lv_if_ne (tgt := 1671) C0.1 C0.2.1 dL_law_1647 (by decide) (fun c8 => ?_) (fun c8 => ?_)
        · replace h := h.1 c8
          refine lv_iconst (v := 0) C0.1 C0.2.1 dL_law_1671 (by decide) ?_
          exact h.elim
        · replace h := h.2 c8
          refine lv_aload_n C0.1 C0.2.1 dL_law_1650 rfl (lv_at hl 1 rfl) ?_
          obtain ⟨i11, h⟩ := h
          refine y_V C0 hO hS (mX7_drivenShare hl9 h) i11 (by decide) rfl rfl tb_295 tb_296 tb_297 tb_27 tb_298 hd_X7_drivenShare rfl ⟨⟨by decide, by decide⟩, by show _ + 1 ≤ 668972; omega, by show _ + 6 ≤ 7086985; omega⟩ hl.1 rfl (Nat.le_of_ble_eq_true rfl) dL_law_1651 (fun E9 ce9 q9 S9 H locs h hO hS hcell hv9 hcl => ?_) (kF (fun r10 S9 H locs h hO hS => ?_))
          · exact h.elim
          · change W _ _ _ _ _ _ _ _ _ _ _ _ (_ + 1) (_ + 6) _ _
            refine lv_ldcf (v := 1058642330) C0.1 C0.2.1 C0.2.2.2.1 (C0.2.2.2.2.1 _ tb_864) dL_law_1654 ?_
            refine lv_fcmp C0.1 C0.2.1 dL_law_1656 ?_
            refine lv_if_ne (tgt := 1671) C0.1 C0.2.1 dL_law_1657 (by decide) (fun c12 => ?_) (fun c12 => ?_)
            · replace h := h.1 c12
              refine lv_iconst (v := 0) C0.1 C0.2.1 dL_law_1671 (by decide) ?_
              exact h.elim
            · replace h := h.2 c12
              refine lv_aload_n C0.1 C0.2.1 dL_law_1660 rfl (lv_at hl 1 rfl) ?_
              obtain ⟨i15, h⟩ := h
              refine c_V C0 hO hS (mX7_isSound h) i15 (by decide) rfl rfl tb_315 tb_316 tb_317 tb_27 tb_318 hd_X7_isSound rfl ⟨⟨by decide, by decide⟩, by show _ + 0 ≤ 668972; omega, by show _ + 0 ≤ 7086985; omega⟩ hl.1 rfl (Nat.le_of_ble_eq_true rfl) dL_law_1661 (kI (fun r14 S13 H locs h hO hS => ?_))
              change W _ _ _ _ _ _ _ _ _ _ _ _ (_ + 0) (_ + 0) _ _
              refine lv_if_eq (tgt := 1671) C0.1 C0.2.1 dL_law_1664 (by decide) (fun c16 => ?_) (fun c16 => ?_)
              · replace h := h.1 c16
                refine lv_iconst (v := 0) C0.1 C0.2.1 dL_law_1671 (by decide) ?_
                exact h.elim
              · replace h := h.2 c16
                refine lv_iconst (v := 1) C0.1 C0.2.1 dL_law_1667 (by decide) ?_
                refine lv_goto (tgt := 1672) C0.1 C0.2.1 dL_law_1668 (by decide) ?_
                exact hend9 _ _ _ _ _ _ dL_law_1672 hS (by show _ ≤ 668972; omega) (by show _ ≤ 7086985; omega)
  · replace h := h.2 c1
    refine lv_aload_n C0.1 C0.2.1 dL_law_676 rfl (lv_at hl 0 rfl) ?_
    refine lv_bipush (v := 10) C0.1 C0.2.1 dL_law_677 (by decide) ?_
    refine lv_iload C0.1 C0.2.1 dL_law_679 (lv_at hl 13 rfl) ?_
    refine lv_iadd C0.1 C0.2.1 dL_law_681 ?_
    refine lv_iconst (v := 2) C0.1 C0.2.1 dL_law_682 (by decide) ?_
    refine c_S C0 hO hS (mL_in h) tb_843 tb_844 tb_26 tb_845 hd_L_in rfl ⟨⟨by decide, by decide⟩, by show _ + 0 ≤ 668972; omega, by show _ + 0 ≤ 7086985; omega⟩ hl.1 rfl (Nat.le_of_ble_eq_true rfl) dL_law_683 (kI (fun r18 S17 H locs h hO hS => ?_))
    change W _ _ _ _ _ _ _ _ _ _ _ _ (_ + 0) (_ + 0) _ _
    refine lv_if_ne (tgt := 693) C0.1 C0.2.1 dL_law_686 (by decide) (fun c19 => ?_) (fun c19 => ?_)
    · replace h := h.1 c19
      refine lv_iconst (v := 3) C0.1 C0.2.1 dL_law_693 (by decide) ?_
      exact bL_law_b694 C0 Y hl9 hend9 hk670 _ _ _ _ _ _ _ _ _ _ _ _ _ _ _ _ _ _ _ _ h hO hS (lv_sub hl [0, 1, 2, 3, 4, 5, 6, 7, 8, 9, 10, 11, 12, 13] rfl) (by clear h; omega) (by clear h; omega)
    · replace h := h.2 c19
      refine lv_iconst (v := 0) C0.1 C0.2.1 dL_law_689 (by decide) ?_
      refine lv_goto (tgt := 694) C0.1 C0.2.1 dL_law_690 (by decide) ?_
      exact bL_law_b694 C0 Y hl9 hend9 hk670 _ _ _ _ _ _ _ _ _ _ _ _ _ _ _ _ _ _ _ _ h hO hS (lv_sub hl [0, 1, 2, 3, 4, 5, 6, 7, 8, 9, 10, 11, 12, 13] rfl) (by clear h; omega) (by clear h; omega)
set_option maxHeartbeats 4000000 in
set_option maxRecDepth 100000 in
theorem lL_law_b670 {p : Program} {l : Launch} {e : Env} {s : State} {m : MethodId} {args : Array Value} {below : List Frame} {meth : Method} {c : Code} {G : Gw} {Q : State → Prop}  (C0 : Mx p s m c code 37 args yL_law.cls G) (Y : My meth (some .boolean)) (hl9 : l.stackTraces = false) (hend9 : ∀ (pc : Nat) (H : Heap) (locs : List Loc) (ls : Array Slot) (cells slots : Nat), decode code pc = .ok (.ireturn, 1) → va_S (Ab G.b) s.heap H locs → cells ≤ 668972 → slots ≤ 7086985 → W p l e room_1 s m args below meth c H locs cells slots Q (F0 m pc ls [.int 1]))  : ∀ n9 : Nat, ∀ (S : Hp) (v1 : Nat) (v2 : Int32) (v3 : Nat) (v4 : Nat) (v5 : Nat) (v6 : Nat) (v7 : Nat) (v8 : Nat) (v9 : Nat) (v10 : Nat) (v11 : Nat) (v12 : Nat) (v13 : Int32) (H : Heap) (locs : List Loc) (ls : Array Slot) (cells slots : Nat), it14 (wL_law_b670 G.xs G.xl) n9 S v1 v2 v3 v4 v5 v6 v7 v8 v9 v10 v11 v12 v13 → Ok G S H → va_S (Ab G.b) s.heap H locs → lv_has ls 37 [(0, .ref G.xb), (1, .ref v1), (2, .int v2), (3, .ref v3), (4, .ref v4), (5, .ref v5), (6, .ref v6), (7, .ref v7), (8, .ref v8), (9, .ref v9), (10, .ref v10), (11, .ref v11), (12, .ref v12), (13, .int v13)] → cells + (n9 * 127 + 3) ≤ 668972 → slots + (n9 * 662 + 18) ≤ 7086985 → W p l e room_1 s m args below meth c H locs cells slots Q (F0 m 670 ls []) := by
  intro n9
  induction n9 with
  | zero => intro S v1 v2 v3 v4 v5 v6 v7 v8 v9 v10 v11 v12 v13 H locs ls cells slots h; exact (h : False).elim
  | succ n9 ih => intro S v1 v2 v3 v4 v5 v6 v7 v8 v9 v10 v11 v12 v13 H locs ls cells slots h hO hS hl hcc hss; exact bL_law_b670 C0 Y hl9 hend9 (n9_670 := n9) ih S v1 v2 v3 v4 v5 v6 v7 v8 v9 v10 v11 v12 v13 H locs ls cells slots h hO hS hl (by omega) (by omega)
def wL_law_b608 (x0 : (Nat → Int32)) (L9 : Nat) (S : Hp) (v1 : Nat) (v3 : Nat) (v4 : Nat) (v5 : Nat) (v6 : Nat) (v7 : Nat) (z0 : Int32) (z1 : Int32) : Prop := ∀ a1 S2, a1 ∉ S.L → S2 = S.new a1 22 5 → ∀ a3 S4, a3 ∉ S2.L → S4 = S2.new a3 22 5 → vp_in 0 (S4.N a3) ∧ ∀ S6, S6 = S4.setAJ a3 ((0 : Int32).toNatClampNeg) 1 → vp_in 1 (S6.N a3) ∧ ∀ S8, S8 = S6.setAJ a3 ((1 : Int32).toNatClampNeg) 1 → vp_in 2 (S8.N a3) ∧ ∀ S10, S10 = S8.setAJ a3 ((2 : Int32).toNatClampNeg) 1 → vp_in 3 (S10.N a3) ∧ ∀ S12, S12 = S10.setAJ a3 ((3 : Int32).toNatClampNeg) 1 → vp_in 4 (S12.N a3) ∧ ∀ S14, S14 = S12.setAJ a3 ((4 : Int32).toNatClampNeg) 1 → ∀ a15 S16, a15 ∉ S14.L → S16 = S14.new a15 22 3 → ∀ a17 S18, a17 ∉ S16.L → S18 = S16.new a17 22 3 → vp_in 0 (S18.N a17) ∧ ∀ S20, S20 = S18.setAJ a17 ((0 : Int32).toNatClampNeg) 1 → vp_in 1 (S20.N a17) ∧ ∀ S22, S22 = S20.setAJ a17 ((1 : Int32).toNatClampNeg) 1 → vp_in 2 (S22.N a17) ∧ ∀ S24, S24 = S22.setAJ a17 ((2 : Int32).toNatClampNeg) 1 → ∀ a25 S26, a25 ∉ S24.L → S26 = S24.new a25 22 2 → it14 (wL_law_b670 x0 L9) 6 S26 v1 (z0 &&& z1) v3 v4 v5 v6 v7 a1 a3 a15 a17 a25 0
set_option maxHeartbeats 4000000 in
set_option maxRecDepth 100000 in
theorem bL_law_b608 {p : Program} {l : Launch} {e : Env} {s : State} {m : MethodId} {args : Array Value} {below : List Frame} {meth : Method} {c : Code} {G : Gw} {Q : State → Prop}  (C0 : Mx p s m c code 37 args yL_law.cls G) (Y : My meth (some .boolean)) (hl9 : l.stackTraces = false) (hend9 : ∀ (pc : Nat) (H : Heap) (locs : List Loc) (ls : Array Slot) (cells slots : Nat), decode code pc = .ok (.ireturn, 1) → va_S (Ab G.b) s.heap H locs → cells ≤ 668972 → slots ≤ 7086985 → W p l e room_1 s m args below meth c H locs cells slots Q (F0 m pc ls [.int 1]))  : ∀ (S : Hp) (v1 : Nat) (v3 : Nat) (v4 : Nat) (v5 : Nat) (v6 : Nat) (v7 : Nat) (z0 : Int32) (z1 : Int32) (H : Heap) (locs : List Loc) (ls : Array Slot) (cells slots : Nat), wL_law_b608 G.xs G.xl S v1 v3 v4 v5 v6 v7 z0 z1 → Ok G S H → va_S (Ab G.b) s.heap H locs → lv_has ls 37 [(0, .ref G.xb), (1, .ref v1), (3, .ref v3), (4, .ref v4), (5, .ref v5), (6, .ref v6), (7, .ref v7)] → cells + (770) ≤ 668972 → slots + (4008) ≤ 7086985 → W p l e room_1 s m args below meth c H locs cells slots Q (F0 m 608 ls [.int z1, .int z0]) := by
  intro S v1 v3 v4 v5 v6 v7 z0 z1 H locs ls cells slots h hO hS hl hcc hss
  unfold wL_law_b608 at h
  refine lv_iand C0.1 C0.2.1 dL_law_608 ?_
  refine lv_istore_n C0.1 C0.2.1 dL_law_609 rfl hl (by decide) rfl (fun ls hl => ?_)
  refine lv_iconst (v := 5) C0.1 C0.2.1 dL_law_610 (by decide) ?_
  refine n_22k (k := 5) C0 hO hS (by decide) (by show _ ≤ 668972; omega) (by show _ ≤ 7086985; omega) dL_law_611 (fun a1 H hna1 hO hS => ?_)
  replace h := h a1 _ hna1 rfl
  refine lv_astore C0.1 C0.2.1 dL_law_613 hl (by decide) rfl (fun ls hl => ?_)
  refine lv_iconst (v := 5) C0.1 C0.2.1 dL_law_615 (by decide) ?_
  refine n_22k (k := 5) C0 hO hS (by decide) (by show _ ≤ 668972; omega) (by show _ ≤ 7086985; omega) dL_law_616 (fun a3 H hna3 hO hS => ?_)
  replace h := h a3 _ hna3 rfl
  refine lv_dup C0.1 C0.2.1 dL_law_618 rfl ?_
  refine lv_iconst (v := 0) C0.1 C0.2.1 dL_law_619 (by decide) ?_
  refine lv_lconst (v := 1) C0.1 C0.2.1 dL_law_620 (by decide) ?_
  obtain ⟨e5, h⟩ := h
  refine r_last C0 hO hS new_isA e5 dL_law_621 (fun H locs hO hS => ?_)
  replace h := h _ rfl
  refine lv_dup C0.1 C0.2.1 dL_law_622 rfl ?_
  refine lv_iconst (v := 1) C0.1 C0.2.1 dL_law_623 (by decide) ?_
  refine lv_lconst (v := 1) C0.1 C0.2.1 dL_law_624 (by decide) ?_
  obtain ⟨e7, h⟩ := h
  refine r_last C0 hO hS (sA_AJ new_isA) e7 dL_law_625 (fun H locs hO hS => ?_)
  replace h := h _ rfl
  refine lv_dup C0.1 C0.2.1 dL_law_626 rfl ?_
  refine lv_iconst (v := 2) C0.1 C0.2.1 dL_law_627 (by decide) ?_
  refine lv_lconst (v := 1) C0.1 C0.2.1 dL_law_628 (by decide) ?_
  obtain ⟨e9, h⟩ := h
  refine r_last C0 hO hS (sA_AJ (sA_AJ new_isA)) e9 dL_law_629 (fun H locs hO hS => ?_)
  replace h := h _ rfl
  refine lv_dup C0.1 C0.2.1 dL_law_630 rfl ?_
  refine lv_iconst (v := 3) C0.1 C0.2.1 dL_law_631 (by decide) ?_
  refine lv_lconst (v := 1) C0.1 C0.2.1 dL_law_632 (by decide) ?_
  obtain ⟨e11, h⟩ := h
  refine r_last C0 hO hS (sA_AJ (sA_AJ (sA_AJ new_isA))) e11 dL_law_633 (fun H locs hO hS => ?_)
  replace h := h _ rfl
  refine lv_dup C0.1 C0.2.1 dL_law_634 rfl ?_
  refine lv_iconst (v := 4) C0.1 C0.2.1 dL_law_635 (by decide) ?_
  refine lv_lconst (v := 1) C0.1 C0.2.1 dL_law_636 (by decide) ?_
  obtain ⟨e13, h⟩ := h
  refine r_last C0 hO hS (sA_AJ (sA_AJ (sA_AJ (sA_AJ new_isA)))) e13 dL_law_637 (fun H locs hO hS => ?_)
  replace h := h _ rfl
  refine lv_astore C0.1 C0.2.1 dL_law_638 hl (by decide) rfl (fun ls hl => ?_)
  refine lv_iconst (v := 3) C0.1 C0.2.1 dL_law_640 (by decide) ?_
  refine n_22k (k := 3) C0 hO hS (by decide) (by show _ ≤ 668972; omega) (by show _ ≤ 7086985; omega) dL_law_641 (fun a15 H hna15 hO hS => ?_)
  replace h := h a15 _ hna15 rfl
  refine lv_astore C0.1 C0.2.1 dL_law_643 hl (by decide) rfl (fun ls hl => ?_)
  refine lv_iconst (v := 3) C0.1 C0.2.1 dL_law_645 (by decide) ?_
  refine n_22k (k := 3) C0 hO hS (by decide) (by show _ ≤ 668972; omega) (by show _ ≤ 7086985; omega) dL_law_646 (fun a17 H hna17 hO hS => ?_)
  replace h := h a17 _ hna17 rfl
  refine lv_dup C0.1 C0.2.1 dL_law_648 rfl ?_
  refine lv_iconst (v := 0) C0.1 C0.2.1 dL_law_649 (by decide) ?_
  refine lv_lconst (v := 1) C0.1 C0.2.1 dL_law_650 (by decide) ?_
  obtain ⟨e19, h⟩ := h
  refine r_last C0 hO hS new_isA e19 dL_law_651 (fun H locs hO hS => ?_)
  replace h := h _ rfl
  refine lv_dup C0.1 C0.2.1 dL_law_652 rfl ?_
  refine lv_iconst (v := 1) C0.1 C0.2.1 dL_law_653 (by decide) ?_
  refine lv_lconst (v := 1) C0.1 C0.2.1 dL_law_654 (by decide) ?_
  obtain ⟨e21, h⟩ := h
  refine r_last C0 hO hS (sA_AJ new_isA) e21 dL_law_655 (fun H locs hO hS => ?_)
  replace h := h _ rfl
  refine lv_dup C0.1 C0.2.1 dL_law_656 rfl ?_
  refine lv_iconst (v := 2) C0.1 C0.2.1 dL_law_657 (by decide) ?_
  refine lv_lconst (v := 1) C0.1 C0.2.1 dL_law_658 (by decide) ?_
  obtain ⟨e23, h⟩ := h
  refine r_last C0 hO hS (sA_AJ (sA_AJ new_isA)) e23 dL_law_659 (fun H locs hO hS => ?_)
  replace h := h _ rfl
  refine lv_astore C0.1 C0.2.1 dL_law_660 hl (by decide) rfl (fun ls hl => ?_)
  refine lv_iconst (v := 2) C0.1 C0.2.1 dL_law_662 (by decide) ?_
  refine n_22k (k := 2) C0 hO hS (by decide) (by show _ ≤ 668972; omega) (by show _ ≤ 7086985; omega) dL_law_663 (fun a25 H hna25 hO hS => ?_)
  replace h := h a25 _ hna25 rfl
  refine lv_astore C0.1 C0.2.1 dL_law_665 hl (by decide) rfl (fun ls hl => ?_)
  refine lv_iconst (v := 0) C0.1 C0.2.1 dL_law_667 (by decide) ?_
  refine lv_istore C0.1 C0.2.1 dL_law_668 hl (by decide) rfl (fun ls hl => ?_)
  exact lL_law_b670 C0 Y hl9 hend9 6 _ _ _ _ _ _ _ _ _ _ _ _ _ _ _ _ _ _ _ h hO hS (lv_sub hl [7, 8, 6, 9, 10, 11, 12, 13, 5, 4, 3, 2, 1, 0] rfl) (by clear h; omega) (by clear h; omega)
def wL_law_b607 (x0 : (Nat → Int32)) (L9 : Nat) (S : Hp) (v1 : Nat) (v3 : Nat) (v4 : Nat) (v5 : Nat) (v6 : Nat) (v7 : Nat) (z0 : Int32) : Prop := wL_law_b608 x0 L9 S v1 v3 v4 v5 v6 v7 z0 0
set_option maxHeartbeats 4000000 in
set_option maxRecDepth 100000 in
theorem bL_law_b607 {p : Program} {l : Launch} {e : Env} {s : State} {m : MethodId} {args : Array Value} {below : List Frame} {meth : Method} {c : Code} {G : Gw} {Q : State → Prop}  (C0 : Mx p s m c code 37 args yL_law.cls G) (Y : My meth (some .boolean)) (hl9 : l.stackTraces = false) (hend9 : ∀ (pc : Nat) (H : Heap) (locs : List Loc) (ls : Array Slot) (cells slots : Nat), decode code pc = .ok (.ireturn, 1) → va_S (Ab G.b) s.heap H locs → cells ≤ 668972 → slots ≤ 7086985 → W p l e room_1 s m args below meth c H locs cells slots Q (F0 m pc ls [.int 1]))  : ∀ (S : Hp) (v1 : Nat) (v3 : Nat) (v4 : Nat) (v5 : Nat) (v6 : Nat) (v7 : Nat) (z0 : Int32) (H : Heap) (locs : List Loc) (ls : Array Slot) (cells slots : Nat), wL_law_b607 G.xs G.xl S v1 v3 v4 v5 v6 v7 z0 → Ok G S H → va_S (Ab G.b) s.heap H locs → lv_has ls 37 [(0, .ref G.xb), (1, .ref v1), (3, .ref v3), (4, .ref v4), (5, .ref v5), (6, .ref v6), (7, .ref v7)] → cells + (770) ≤ 668972 → slots + (4008) ≤ 7086985 → W p l e room_1 s m args below meth c H locs cells slots Q (F0 m 607 ls [.int z0]) := by
  intro S v1 v3 v4 v5 v6 v7 z0 H locs ls cells slots h hO hS hl hcc hss
  unfold wL_law_b607 at h
  refine lv_iconst (v := 0) C0.1 C0.2.1 dL_law_607 (by decide) ?_
  exact bL_law_b608 C0 Y hl9 hend9 _ _ _ _ _ _ _ _ _ _ _ _ _ _ h hO hS (lv_sub hl [0, 1, 2, 3, 4, 5, 6] rfl) (by clear h; omega) (by clear h; omega)
def wL_law_b550 (x0 : (Nat → Int32)) (L9 : Nat) (S : Hp) (v1 : Nat) (v3 : Nat) (v4 : Nat) (v5 : Nat) (v6 : Nat) (v7 : Nat) (z0 : Int32) (z1 : Int32) : Prop := isA S v1 7 ∧ wX7_freedom S v1 (fun S1 r2 => ((¬ r2 = 2 → wL_law_b607 x0 L9 S1 v1 v3 v4 v5 v6 v7 (z0 &&& z1)) ∧ (r2 = 2 → wL_driver S1 v1 4 (fun S5 r6 => ((¬ r6 = 2 → wL_law_b607 x0 L9 S5 v1 v3 v4 v5 v6 v7 (z0 &&& z1)) ∧ (r6 = 2 → wL_driver S5 v1 3 (fun S8 r9 => ((¬ r9 = (-900002) → wL_law_b607 x0 L9 S8 v1 v3 v4 v5 v6 v7 (z0 &&& z1)) ∧ (r9 = (-900002) → wL_turn S8 v1 1 1 (fun S11 r12 => ((¬ r12 = (-900003) → wL_law_b607 x0 L9 S11 v1 v3 v4 v5 v6 v7 (z0 &&& z1)) ∧ (r12 = (-900003) → wL_turn S11 v1 0 49 (fun S14 r15 => ((¬ r15 = (-900002) → wL_law_b607 x0 L9 S14 v1 v3 v4 v5 v6 v7 (z0 &&& z1)) ∧ (r15 = (-900002) → wL_law_b608 x0 L9 S14 v1 v3 v4 v5 v6 v7 (z0 &&& z1) 1)))))))))))))))
set_option maxHeartbeats 4000000 in
set_option maxRecDepth 100000 in
theorem bL_law_b550 {p : Program} {l : Launch} {e : Env} {s : State} {m : MethodId} {args : Array Value} {below : List Frame} {meth : Method} {c : Code} {G : Gw} {Q : State → Prop}  (C0 : Mx p s m c code 37 args yL_law.cls G) (Y : My meth (some .boolean)) (hl9 : l.stackTraces = false) (hend9 : ∀ (pc : Nat) (H : Heap) (locs : List Loc) (ls : Array Slot) (cells slots : Nat), decode code pc = .ok (.ireturn, 1) → va_S (Ab G.b) s.heap H locs → cells ≤ 668972 → slots ≤ 7086985 → W p l e room_1 s m args below meth c H locs cells slots Q (F0 m pc ls [.int 1]))  : ∀ (S : Hp) (v1 : Nat) (v3 : Nat) (v4 : Nat) (v5 : Nat) (v6 : Nat) (v7 : Nat) (z0 : Int32) (z1 : Int32) (H : Heap) (locs : List Loc) (ls : Array Slot) (cells slots : Nat), wL_law_b550 G.xs G.xl S v1 v3 v4 v5 v6 v7 z0 z1 → Ok G S H → va_S (Ab G.b) s.heap H locs → lv_has ls 37 [(0, .ref G.xb), (1, .ref v1), (3, .ref v3), (4, .ref v4), (5, .ref v5), (6, .ref v6), (7, .ref v7)] → cells + (780) ≤ 668972 → slots + (4068) ≤ 7086985 → W p l e room_1 s m args below meth c H locs cells slots Q (F0 m 550 ls [.int z1, .int z0]) := by
  intro S v1 v3 v4 v5 v6 v7 z0 z1 H locs ls cells slots h hO hS hl hcc hss
  unfold wL_law_b550 at h
  refine lv_iand C0.1 C0.2.1 dL_law_550 ?_
  refine lv_istore_n C0.1 C0.2.1 dL_law_551 rfl hl (by decide) rfl (fun ls hl => ?_)
  refine lv_iload_n C0.1 C0.2.1 dL_law_552 rfl (lv_at hl 0 rfl) ?_
  refine lv_aload_n C0.1 C0.2.1 dL_law_553 rfl (lv_at hl 2 rfl) ?_
  obtain ⟨i3, h⟩ := h
  refine c_V C0 hO hS (mX7_freedom h) i3 (by decide) rfl rfl tb_184 tb_185 tb_186 tb_27 tb_187 hd_X7_freedom rfl ⟨⟨by decide, by decide⟩, by show _ + 0 ≤ 668972; omega, by show _ + 0 ≤ 7086985; omega⟩ hl.1 rfl (Nat.le_of_ble_eq_true rfl) dL_law_554 (kI (fun r2 S1 H locs h hO hS => ?_))
  change W _ _ _ _ _ _ _ _ _ _ _ _ (_ + 0) (_ + 0) _ _
  refine lv_iconst (v := 2) C0.1 C0.2.1 dL_law_557 (by decide) ?_
  refine lv_icmp_ne (tgt := 607) C0.1 C0.2.1 dL_law_558 (by decide) (fun c4 => ?_) (fun c4 => ?_)
  · replace h := h.1 c4
    exact bL_law_b607 C0 Y hl9 hend9 _ _ _ _ _ _ _ _ _ _ _ _ _ h hO hS (lv_sub hl [1, 2, 3, 4, 5, 6, 7] rfl) (by clear h; omega) (by clear h; omega)
  · replace h := h.2 c4
    refine lv_aload_n C0.1 C0.2.1 dL_law_561 rfl (lv_at hl 2 rfl) ?_
    refine lv_iconst (v := 4) C0.1 C0.2.1 dL_law_562 (by decide) ?_
    refine c_SW C0 hO hS (mL_driver hl9 h) tb_790 tb_791 tb_26 tb_792 hd_L_driver rfl ⟨⟨by decide, by decide⟩, by show _ + 2 ≤ 668972; omega, by show _ + 12 ≤ 7086985; omega⟩ hl.1 rfl (Nat.le_of_ble_eq_true rfl) dL_law_563 (kI (fun r6 S5 H locs h hO hS => ?_))
    change W _ _ _ _ _ _ _ _ _ _ _ _ (_ + 2) (_ + 12) _ _
    refine lv_iconst (v := 2) C0.1 C0.2.1 dL_law_566 (by decide) ?_
    refine lv_icmp_ne (tgt := 607) C0.1 C0.2.1 dL_law_567 (by decide) (fun c7 => ?_) (fun c7 => ?_)
    · replace h := h.1 c7
      exact bL_law_b607 C0 Y hl9 hend9 _ _ _ _ _ _ _ _ _ _ _ _ _ h hO hS (lv_sub hl [1, 2, 3, 4, 5, 6, 7] rfl) (by clear h; omega) (by clear h; omega)
    · replace h := h.2 c7
      refine lv_aload_n C0.1 C0.2.1 dL_law_570 rfl (lv_at hl 2 rfl) ?_
      refine lv_iconst (v := 3) C0.1 C0.2.1 dL_law_571 (by decide) ?_
      refine c_SW C0 hO hS (mL_driver hl9 h) tb_790 tb_791 tb_26 tb_792 hd_L_driver rfl ⟨⟨by decide, by decide⟩, by show _ + 2 ≤ 668972; omega, by show _ + 12 ≤ 7086985; omega⟩ hl.1 rfl (Nat.le_of_ble_eq_true rfl) dL_law_572 (kI (fun r9 S8 H locs h hO hS => ?_))
      change W _ _ _ _ _ _ _ _ _ _ _ _ (_ + 2) (_ + 12) _ _
      refine lv_ldc (v := (-900002)) C0.1 C0.2.1 C0.2.2.2.1 (C0.2.2.2.2.1 _ tb_716) dL_law_575 ?_
      refine lv_icmp_ne (tgt := 607) C0.1 C0.2.1 dL_law_577 (by decide) (fun c10 => ?_) (fun c10 => ?_)
      · replace h := h.1 c10
        exact bL_law_b607 C0 Y hl9 hend9 _ _ _ _ _ _ _ _ _ _ _ _ _ h hO hS (lv_sub hl [1, 2, 3, 4, 5, 6, 7] rfl) (by clear h; omega) (by clear h; omega)
      · replace h := h.2 c10
        refine lv_aload_n C0.1 C0.2.1 dL_law_580 rfl (lv_at hl 2 rfl) ?_
        refine lv_iconst (v := 1) C0.1 C0.2.1 dL_law_581 (by decide) ?_
        refine lv_iconst (v := 1) C0.1 C0.2.1 dL_law_582 (by decide) ?_
        refine c_SW C0 hO hS (mL_turn hl9 h) tb_731 tb_732 tb_26 tb_733 hd_L_turn rfl ⟨⟨by decide, by decide⟩, by show _ + 3 ≤ 668972; omega, by show _ + 18 ≤ 7086985; omega⟩ hl.1 rfl (Nat.le_of_ble_eq_true rfl) dL_law_583 (kI (fun r12 S11 H locs h hO hS => ?_))
        change W _ _ _ _ _ _ _ _ _ _ _ _ (_ + 3) (_ + 18) _ _
        refine lv_ldc (v := (-900003)) C0.1 C0.2.1 C0.2.2.2.1 (C0.2.2.2.2.1 _ tb_717) dL_law_586 ?_
        refine lv_icmp_ne (tgt := 607) C0.1 C0.2.1 dL_law_588 (by decide) (fun c13 => ?_) (fun c13 => ?_)
        · replace h := h.1 c13
          exact bL_law_b607 C0 Y hl9 hend9 _ _ _ _ _ _ _ _ _ _ _ _ _ h hO hS (lv_sub hl [1, 2, 3, 4, 5, 6, 7] rfl) (by clear h; omega) (by clear h; omega)
        · replace h := h.2 c13
          refine lv_aload_n C0.1 C0.2.1 dL_law_591 rfl (lv_at hl 2 rfl) ?_
          refine lv_iconst (v := 0) C0.1 C0.2.1 dL_law_592 (by decide) ?_
          refine lv_bipush (v := 49) C0.1 C0.2.1 dL_law_593 (by decide) ?_
          refine c_SW C0 hO hS (mL_turn hl9 h) tb_731 tb_732 tb_26 tb_733 hd_L_turn rfl ⟨⟨by decide, by decide⟩, by show _ + 3 ≤ 668972; omega, by show _ + 18 ≤ 7086985; omega⟩ hl.1 rfl (Nat.le_of_ble_eq_true rfl) dL_law_595 (kI (fun r15 S14 H locs h hO hS => ?_))
          change W _ _ _ _ _ _ _ _ _ _ _ _ (_ + 3) (_ + 18) _ _
          refine lv_ldc (v := (-900002)) C0.1 C0.2.1 C0.2.2.2.1 (C0.2.2.2.2.1 _ tb_716) dL_law_598 ?_
          refine lv_icmp_ne (tgt := 607) C0.1 C0.2.1 dL_law_600 (by decide) (fun c16 => ?_) (fun c16 => ?_)
          · replace h := h.1 c16
            exact bL_law_b607 C0 Y hl9 hend9 _ _ _ _ _ _ _ _ _ _ _ _ _ h hO hS (lv_sub hl [1, 2, 3, 4, 5, 6, 7] rfl) (by clear h; omega) (by clear h; omega)
          · replace h := h.2 c16
            refine lv_iconst (v := 1) C0.1 C0.2.1 dL_law_603 (by decide) ?_
            refine lv_goto (tgt := 608) C0.1 C0.2.1 dL_law_604 (by decide) ?_
            exact bL_law_b608 C0 Y hl9 hend9 _ _ _ _ _ _ _ _ _ _ _ _ _ _ h hO hS (lv_sub hl [1, 2, 3, 4, 5, 6, 7] rfl) (by clear h; omega) (by clear h; omega)
def wL_law_b549 (x0 : (Nat → Int32)) (L9 : Nat) (S : Hp) (v1 : Nat) (v3 : Nat) (v4 : Nat) (v5 : Nat) (v6 : Nat) (v7 : Nat) (z0 : Int32) : Prop := wL_law_b550 x0 L9 S v1 v3 v4 v5 v6 v7 z0 0
set_option maxHeartbeats 4000000 in
set_option maxRecDepth 100000 in
theorem bL_law_b549 {p : Program} {l : Launch} {e : Env} {s : State} {m : MethodId} {args : Array Value} {below : List Frame} {meth : Method} {c : Code} {G : Gw} {Q : State → Prop}  (C0 : Mx p s m c code 37 args yL_law.cls G) (Y : My meth (some .boolean)) (hl9 : l.stackTraces = false) (hend9 : ∀ (pc : Nat) (H : Heap) (locs : List Loc) (ls : Array Slot) (cells slots : Nat), decode code pc = .ok (.ireturn, 1) → va_S (Ab G.b) s.heap H locs → cells ≤ 668972 → slots ≤ 7086985 → W p l e room_1 s m args below meth c H locs cells slots Q (F0 m pc ls [.int 1]))  : ∀ (S : Hp) (v1 : Nat) (v3 : Nat) (v4 : Nat) (v5 : Nat) (v6 : Nat) (v7 : Nat) (z0 : Int32) (H : Heap) (locs : List Loc) (ls : Array Slot) (cells slots : Nat), wL_law_b549 G.xs G.xl S v1 v3 v4 v5 v6 v7 z0 → Ok G S H → va_S (Ab G.b) s.heap H locs → lv_has ls 37 [(0, .ref G.xb), (1, .ref v1), (3, .ref v3), (4, .ref v4), (5, .ref v5), (6, .ref v6), (7, .ref v7)] → cells + (780) ≤ 668972 → slots + (4068) ≤ 7086985 → W p l e room_1 s m args below meth c H locs cells slots Q (F0 m 549 ls [.int z0]) := by
  intro S v1 v3 v4 v5 v6 v7 z0 H locs ls cells slots h hO hS hl hcc hss
  unfold wL_law_b549 at h
  refine lv_iconst (v := 0) C0.1 C0.2.1 dL_law_549 (by decide) ?_
  exact bL_law_b550 C0 Y hl9 hend9 _ _ _ _ _ _ _ _ _ _ _ _ _ _ h hO hS (lv_sub hl [0, 1, 2, 3, 4, 5, 6] rfl) (by clear h; omega) (by clear h; omega)
def wL_law_b132 (x0 : (Nat → Int32)) (L9 : Nat) (k132 : Hp → Nat → Int32 → Nat → Nat → Nat → Nat → Nat → Int32 → Prop) (S : Hp) (v1 : Nat) (v2 : Int32) (v3 : Nat) (v4 : Nat) (v5 : Nat) (v6 : Nat) (v7 : Nat) (v8 : Int32) : Prop := ((2 ≤ v8 → wL_in S x0 L9 6 25 (fun S2 r3 => isA S2 v4 21 ∧ vp_in 2 (S2.N v4) ∧ ∀ S6, S6 = S2.setAI v4 ((2 : Int32).toNatClampNeg) (6 + r3) → wL_in S6 x0 L9 7 25 (fun S7 r8 => isA S7 v5 21 ∧ vp_in 2 (S7.N v5) ∧ ∀ S11, S11 = S7.setAI v5 ((2 : Int32).toNatClampNeg) (6 + r8) → wL_link S11 v1 103 0 4 5 6 (fun S12 r13 => ((¬ r13 = (-900002) → wL_law_b549 x0 L9 S12 v1 v3 v4 v5 v6 v7 v2) ∧ (r13 = (-900002) → wL_link S12 v1 118 0 4 3 1 (fun S15 r16 => ((¬ r16 = (-900002) → wL_law_b549 x0 L9 S15 v1 v3 v4 v5 v6 v7 v2) ∧ (r16 = (-900002) → wL_link S15 v1 120 0 4 0 0 (fun S18 r19 => ((¬ r19 = (-900002) → wL_law_b549 x0 L9 S18 v1 v3 v4 v5 v6 v7 v2) ∧ (r19 = (-900002) → wL_link S18 v1 107 2 0 0 0 (fun S21 r22 => ((¬ r22 = (-900003) → wL_law_b549 x0 L9 S21 v1 v3 v4 v5 v6 v7 v2) ∧ (r22 = (-900003) → wL_link S21 v1 107 5 0 0 0 (fun S24 r25 => ((¬ r25 = (-900001) → wL_law_b549 x0 L9 S24 v1 v3 v4 v5 v6 v7 v2) ∧ (r25 = (-900001) → wL_planets S24 v1 1 1 4 6 6 (fun S27 r28 => ((¬ r28 = (-900003) → wL_law_b549 x0 L9 S27 v1 v3 v4 v5 v6 v7 v2) ∧ (r28 = (-900003) → isA S27 v4 21 ∧ vp_in 2 (S27.N v4) ∧ isA S27 v5 21 ∧ vp_in 2 (S27.N v5) ∧ wL_planets S27 v1 1 3 4 (S27.AI v4 ((2 : Int32).toNatClampNeg)) (S27.AI v5 ((2 : Int32).toNatClampNeg)) (fun S34 r35 => ((¬ r35 = 2 → wL_law_b549 x0 L9 S34 v1 v3 v4 v5 v6 v7 v2) ∧ (r35 = 2 → wL_law_b550 x0 L9 S34 v1 v3 v4 v5 v6 v7 v2 1)))))))))))))))))))))))) ∧ (¬ (2 ≤ v8) → wL_in S x0 L9 v8 5 (fun S37 r38 => ((¬ r38 = 0 → ((¬ r38 = 1 → ((¬ r38 = 2 → ((¬ r38 = 3 → wL_law_b195 x0 L9 k132 S37 v1 v2 v3 v4 v5 v6 v7 v8 r38 v3 v8 107) ∧ (r38 = 3 → wL_law_b195 x0 L9 k132 S37 v1 v2 v3 v4 v5 v6 v7 v8 r38 v3 v8 114))) ∧ (r38 = 2 → wL_law_b195 x0 L9 k132 S37 v1 v2 v3 v4 v5 v6 v7 v8 r38 v3 v8 118))) ∧ (r38 = 1 → wL_law_b195 x0 L9 k132 S37 v1 v2 v3 v4 v5 v6 v7 v8 r38 v3 v8 105))) ∧ (r38 = 0 → wL_law_b195 x0 L9 k132 S37 v1 v2 v3 v4 v5 v6 v7 v8 r38 v3 v8 103)))))
set_option maxHeartbeats 4000000 in
set_option maxRecDepth 100000 in
theorem bL_law_b132 {p : Program} {l : Launch} {e : Env} {s : State} {m : MethodId} {args : Array Value} {below : List Frame} {meth : Method} {c : Code} {G : Gw} {Q : State → Prop}  (C0 : Mx p s m c code 37 args yL_law.cls G) (Y : My meth (some .boolean)) (hl9 : l.stackTraces = false) (hend9 : ∀ (pc : Nat) (H : Heap) (locs : List Loc) (ls : Array Slot) (cells slots : Nat), decode code pc = .ok (.ireturn, 1) → va_S (Ab G.b) s.heap H locs → cells ≤ 668972 → slots ≤ 7086985 → W p l e room_1 s m args below meth c H locs cells slots Q (F0 m pc ls [.int 1])) {n9_132 : Nat} {k132 : Hp → Nat → Int32 → Nat → Nat → Nat → Nat → Nat → Int32 → Prop} (hk132 : ∀ (S : Hp) (v1 : Nat) (v2 : Int32) (v3 : Nat) (v4 : Nat) (v5 : Nat) (v6 : Nat) (v7 : Nat) (v8 : Int32) (H : Heap) (locs : List Loc) (ls : Array Slot) (cells slots : Nat), k132 S v1 v2 v3 v4 v5 v6 v7 v8 → Ok G S H → va_S (Ab G.b) s.heap H locs → lv_has ls 37 [(0, .ref G.xb), (1, .ref v1), (2, .int v2), (3, .ref v3), (4, .ref v4), (5, .ref v5), (6, .ref v6), (7, .ref v7), (8, .int v8)] → cells + (n9_132 * 282 + 1444) ≤ 668972 → slots + (n9_132 * 6621 + 19553) ≤ 7086985 → W p l e room_1 s m args below meth c H locs cells slots Q (F0 m 132 ls [])) : ∀ (S : Hp) (v1 : Nat) (v2 : Int32) (v3 : Nat) (v4 : Nat) (v5 : Nat) (v6 : Nat) (v7 : Nat) (v8 : Int32) (H : Heap) (locs : List Loc) (ls : Array Slot) (cells slots : Nat), wL_law_b132 G.xs G.xl k132 S v1 v2 v3 v4 v5 v6 v7 v8 → Ok G S H → va_S (Ab G.b) s.heap H locs → lv_has ls 37 [(0, .ref G.xb), (1, .ref v1), (2, .int v2), (3, .ref v3), (4, .ref v4), (5, .ref v5), (6, .ref v6), (7, .ref v7), (8, .int v8)] → cells + (n9_132 * 282 + 1726) ≤ 668972 → slots + (n9_132 * 6621 + 26174) ≤ 7086985 → W p l e room_1 s m args below meth c H locs cells slots Q (F0 m 132 ls []) := by
  intro S v1 v2 v3 v4 v5 v6 v7 v8 H locs ls cells slots h hO hS hl hcc hss
  unfold wL_law_b132 at h
  refine lv_iload C0.1 C0.2.1 dL_law_132 (lv_at hl 8 rfl) ?_
  refine lv_iconst (v := 2) C0.1 C0.2.1 dL_law_134 (by decide) ?_
  refine lv_icmp_ge (tgt := 403) C0.1 C0.2.1 dL_law_135 (by decide) (fun c1 => ?_) (fun c1 => ?_)
  · replace h := h.1 c1
    refine lv_aload C0.1 C0.2.1 dL_law_403 (lv_at hl 4 rfl) ?_
    refine lv_iconst (v := 2) C0.1 C0.2.1 dL_law_405 (by decide) ?_
    refine lv_bipush (v := 6) C0.1 C0.2.1 dL_law_406 (by decide) ?_
    refine lv_aload_n C0.1 C0.2.1 dL_law_408 rfl (lv_at hl 0 rfl) ?_
    refine lv_bipush (v := 6) C0.1 C0.2.1 dL_law_409 (by decide) ?_
    refine lv_bipush (v := 25) C0.1 C0.2.1 dL_law_411 (by decide) ?_
    refine c_S C0 hO hS (mL_in h) tb_843 tb_844 tb_26 tb_845 hd_L_in rfl ⟨⟨by decide, by decide⟩, by show _ + 0 ≤ 668972; omega, by show _ + 0 ≤ 7086985; omega⟩ hl.1 rfl (Nat.le_of_ble_eq_true rfl) dL_law_413 (kI (fun r3 S2 H locs h hO hS => ?_))
    change W _ _ _ _ _ _ _ _ _ _ _ _ (_ + 0) (_ + 0) _ _
    refine lv_iadd C0.1 C0.2.1 dL_law_416 ?_
    obtain ⟨i4, h⟩ := h
    obtain ⟨e5, h⟩ := h
    refine r_iast C0 hO hS i4 e5 dL_law_417 (fun H locs hO hS => ?_)
    replace h := h _ rfl
    refine lv_aload C0.1 C0.2.1 dL_law_418 (lv_at hl 5 rfl) ?_
    refine lv_iconst (v := 2) C0.1 C0.2.1 dL_law_420 (by decide) ?_
    refine lv_bipush (v := 6) C0.1 C0.2.1 dL_law_421 (by decide) ?_
    refine lv_aload_n C0.1 C0.2.1 dL_law_423 rfl (lv_at hl 0 rfl) ?_
    refine lv_bipush (v := 7) C0.1 C0.2.1 dL_law_424 (by decide) ?_
    refine lv_bipush (v := 25) C0.1 C0.2.1 dL_law_426 (by decide) ?_
    refine c_S C0 hO hS (mL_in h) tb_843 tb_844 tb_26 tb_845 hd_L_in rfl ⟨⟨by decide, by decide⟩, by show _ + 0 ≤ 668972; omega, by show _ + 0 ≤ 7086985; omega⟩ hl.1 rfl (Nat.le_of_ble_eq_true rfl) dL_law_428 (kI (fun r8 S7 H locs h hO hS => ?_))
    change W _ _ _ _ _ _ _ _ _ _ _ _ (_ + 0) (_ + 0) _ _
    refine lv_iadd C0.1 C0.2.1 dL_law_431 ?_
    obtain ⟨i9, h⟩ := h
    obtain ⟨e10, h⟩ := h
    refine r_iast C0 hO hS i9 e10 dL_law_432 (fun H locs hO hS => ?_)
    replace h := h _ rfl
    refine lv_iload_n C0.1 C0.2.1 dL_law_433 rfl (lv_at hl 2 rfl) ?_
    refine lv_aload_n C0.1 C0.2.1 dL_law_434 rfl (lv_at hl 1 rfl) ?_
    refine lv_bipush (v := 103) C0.1 C0.2.1 dL_law_435 (by decide) ?_
    refine lv_iconst (v := 0) C0.1 C0.2.1 dL_law_437 (by decide) ?_
    refine lv_iconst (v := 4) C0.1 C0.2.1 dL_law_438 (by decide) ?_
    refine lv_iconst (v := 5) C0.1 C0.2.1 dL_law_439 (by decide) ?_
    refine lv_bipush (v := 6) C0.1 C0.2.1 dL_law_440 (by decide) ?_
    refine c_SW C0 hO hS (mL_link hl9 h) tb_517 tb_518 tb_26 tb_519 hd_L_link rfl ⟨⟨by decide, by decide⟩, by show _ + 94 ≤ 668972; omega, by show _ + 2207 ≤ 7086985; omega⟩ hl.1 rfl (Nat.le_of_ble_eq_true rfl) dL_law_442 (kI (fun r13 S12 H locs h hO hS => ?_))
    change W _ _ _ _ _ _ _ _ _ _ _ _ (_ + 94) (_ + 2207) _ _
    refine lv_ldc (v := (-900002)) C0.1 C0.2.1 C0.2.2.2.1 (C0.2.2.2.2.1 _ tb_716) dL_law_445 ?_
    refine lv_icmp_ne (tgt := 549) C0.1 C0.2.1 dL_law_447 (by decide) (fun c14 => ?_) (fun c14 => ?_)
    · replace h := h.1 c14
      exact bL_law_b549 C0 Y hl9 hend9 _ _ _ _ _ _ _ _ _ _ _ _ _ h hO hS (lv_sub hl [0, 1, 3, 4, 5, 6, 7] rfl) (by clear h; omega) (by clear h; omega)
    · replace h := h.2 c14
      refine lv_aload_n C0.1 C0.2.1 dL_law_450 rfl (lv_at hl 1 rfl) ?_
      refine lv_bipush (v := 118) C0.1 C0.2.1 dL_law_451 (by decide) ?_
      refine lv_iconst (v := 0) C0.1 C0.2.1 dL_law_453 (by decide) ?_
      refine lv_iconst (v := 4) C0.1 C0.2.1 dL_law_454 (by decide) ?_
      refine lv_iconst (v := 3) C0.1 C0.2.1 dL_law_455 (by decide) ?_
      refine lv_iconst (v := 1) C0.1 C0.2.1 dL_law_456 (by decide) ?_
      refine c_SW C0 hO hS (mL_link hl9 h) tb_517 tb_518 tb_26 tb_519 hd_L_link rfl ⟨⟨by decide, by decide⟩, by show _ + 94 ≤ 668972; omega, by show _ + 2207 ≤ 7086985; omega⟩ hl.1 rfl (Nat.le_of_ble_eq_true rfl) dL_law_457 (kI (fun r16 S15 H locs h hO hS => ?_))
      change W _ _ _ _ _ _ _ _ _ _ _ _ (_ + 94) (_ + 2207) _ _
      refine lv_ldc (v := (-900002)) C0.1 C0.2.1 C0.2.2.2.1 (C0.2.2.2.2.1 _ tb_716) dL_law_460 ?_
      refine lv_icmp_ne (tgt := 549) C0.1 C0.2.1 dL_law_462 (by decide) (fun c17 => ?_) (fun c17 => ?_)
      · replace h := h.1 c17
        exact bL_law_b549 C0 Y hl9 hend9 _ _ _ _ _ _ _ _ _ _ _ _ _ h hO hS (lv_sub hl [0, 1, 3, 4, 5, 6, 7] rfl) (by clear h; omega) (by clear h; omega)
      · replace h := h.2 c17
        refine lv_aload_n C0.1 C0.2.1 dL_law_465 rfl (lv_at hl 1 rfl) ?_
        refine lv_bipush (v := 120) C0.1 C0.2.1 dL_law_466 (by decide) ?_
        refine lv_iconst (v := 0) C0.1 C0.2.1 dL_law_468 (by decide) ?_
        refine lv_iconst (v := 4) C0.1 C0.2.1 dL_law_469 (by decide) ?_
        refine lv_iconst (v := 0) C0.1 C0.2.1 dL_law_470 (by decide) ?_
        refine lv_iconst (v := 0) C0.1 C0.2.1 dL_law_471 (by decide) ?_
        refine c_SW C0 hO hS (mL_link hl9 h) tb_517 tb_518 tb_26 tb_519 hd_L_link rfl ⟨⟨by decide, by decide⟩, by show _ + 94 ≤ 668972; omega, by show _ + 2207 ≤ 7086985; omega⟩ hl.1 rfl (Nat.le_of_ble_eq_true rfl) dL_law_472 (kI (fun r19 S18 H locs h hO hS => ?_))
        change W _ _ _ _ _ _ _ _ _ _ _ _ (_ + 94) (_ + 2207) _ _
        refine lv_ldc (v := (-900002)) C0.1 C0.2.1 C0.2.2.2.1 (C0.2.2.2.2.1 _ tb_716) dL_law_475 ?_
        refine lv_icmp_ne (tgt := 549) C0.1 C0.2.1 dL_law_477 (by decide) (fun c20 => ?_) (fun c20 => ?_)
        · replace h := h.1 c20
          exact bL_law_b549 C0 Y hl9 hend9 _ _ _ _ _ _ _ _ _ _ _ _ _ h hO hS (lv_sub hl [0, 1, 3, 4, 5, 6, 7] rfl) (by clear h; omega) (by clear h; omega)
        · replace h := h.2 c20
          refine lv_aload_n C0.1 C0.2.1 dL_law_480 rfl (lv_at hl 1 rfl) ?_
          refine lv_bipush (v := 107) C0.1 C0.2.1 dL_law_481 (by decide) ?_
          refine lv_iconst (v := 2) C0.1 C0.2.1 dL_law_483 (by decide) ?_
          refine lv_iconst (v := 0) C0.1 C0.2.1 dL_law_484 (by decide) ?_
          refine lv_iconst (v := 0) C0.1 C0.2.1 dL_law_485 (by decide) ?_
          refine lv_iconst (v := 0) C0.1 C0.2.1 dL_law_486 (by decide) ?_
          refine c_SW C0 hO hS (mL_link hl9 h) tb_517 tb_518 tb_26 tb_519 hd_L_link rfl ⟨⟨by decide, by decide⟩, by show _ + 94 ≤ 668972; omega, by show _ + 2207 ≤ 7086985; omega⟩ hl.1 rfl (Nat.le_of_ble_eq_true rfl) dL_law_487 (kI (fun r22 S21 H locs h hO hS => ?_))
          change W _ _ _ _ _ _ _ _ _ _ _ _ (_ + 94) (_ + 2207) _ _
          refine lv_ldc (v := (-900003)) C0.1 C0.2.1 C0.2.2.2.1 (C0.2.2.2.2.1 _ tb_717) dL_law_490 ?_
          refine lv_icmp_ne (tgt := 549) C0.1 C0.2.1 dL_law_492 (by decide) (fun c23 => ?_) (fun c23 => ?_)
          · replace h := h.1 c23
            exact bL_law_b549 C0 Y hl9 hend9 _ _ _ _ _ _ _ _ _ _ _ _ _ h hO hS (lv_sub hl [0, 1, 3, 4, 5, 6, 7] rfl) (by clear h; omega) (by clear h; omega)
          · replace h := h.2 c23
            refine lv_aload_n C0.1 C0.2.1 dL_law_495 rfl (lv_at hl 1 rfl) ?_
            refine lv_bipush (v := 107) C0.1 C0.2.1 dL_law_496 (by decide) ?_
            refine lv_iconst (v := 5) C0.1 C0.2.1 dL_law_498 (by decide) ?_
            refine lv_iconst (v := 0) C0.1 C0.2.1 dL_law_499 (by decide) ?_
            refine lv_iconst (v := 0) C0.1 C0.2.1 dL_law_500 (by decide) ?_
            refine lv_iconst (v := 0) C0.1 C0.2.1 dL_law_501 (by decide) ?_
            refine c_SW C0 hO hS (mL_link hl9 h) tb_517 tb_518 tb_26 tb_519 hd_L_link rfl ⟨⟨by decide, by decide⟩, by show _ + 94 ≤ 668972; omega, by show _ + 2207 ≤ 7086985; omega⟩ hl.1 rfl (Nat.le_of_ble_eq_true rfl) dL_law_502 (kI (fun r25 S24 H locs h hO hS => ?_))
            change W _ _ _ _ _ _ _ _ _ _ _ _ (_ + 94) (_ + 2207) _ _
            refine lv_ldc (v := (-900001)) C0.1 C0.2.1 C0.2.2.2.1 (C0.2.2.2.2.1 _ tb_516) dL_law_505 ?_
            refine lv_icmp_ne (tgt := 549) C0.1 C0.2.1 dL_law_507 (by decide) (fun c26 => ?_) (fun c26 => ?_)
            · replace h := h.1 c26
              exact bL_law_b549 C0 Y hl9 hend9 _ _ _ _ _ _ _ _ _ _ _ _ _ h hO hS (lv_sub hl [0, 1, 3, 4, 5, 6, 7] rfl) (by clear h; omega) (by clear h; omega)
            · replace h := h.2 c26
              refine lv_aload_n C0.1 C0.2.1 dL_law_510 rfl (lv_at hl 1 rfl) ?_
              refine lv_iconst (v := 1) C0.1 C0.2.1 dL_law_511 (by decide) ?_
              refine lv_iconst (v := 1) C0.1 C0.2.1 dL_law_512 (by decide) ?_
              refine lv_iconst (v := 4) C0.1 C0.2.1 dL_law_513 (by decide) ?_
              refine lv_bipush (v := 6) C0.1 C0.2.1 dL_law_514 (by decide) ?_
              refine lv_bipush (v := 6) C0.1 C0.2.1 dL_law_516 (by decide) ?_
              refine c_SW C0 hO hS (mL_planets hl9 h) tb_719 tb_720 tb_26 tb_721 hd_L_planets rfl ⟨⟨by decide, by decide⟩, by show _ + 97 ≤ 668972; omega, by show _ + 2225 ≤ 7086985; omega⟩ hl.1 rfl (Nat.le_of_ble_eq_true rfl) dL_law_518 (kI (fun r28 S27 H locs h hO hS => ?_))
              change W _ _ _ _ _ _ _ _ _ _ _ _ (_ + 97) (_ + 2225) _ _
              refine lv_ldc (v := (-900003)) C0.1 C0.2.1 C0.2.2.2.1 (C0.2.2.2.2.1 _ tb_717) dL_law_521 ?_
              refine lv_icmp_ne (tgt := 549) C0.1 C0.2.1 dL_law_523 (by decide) (fun c29 => ?_) (fun c29 => ?_)
              · replace h := h.1 c29
                exact bL_law_b549 C0 Y hl9 hend9 _ _ _ _ _ _ _ _ _ _ _ _ _ h hO hS (lv_sub hl [0, 1, 3, 4, 5, 6, 7] rfl) (by clear h; omega) (by clear h; omega)
              · replace h := h.2 c29
                refine lv_aload_n C0.1 C0.2.1 dL_law_526 rfl (lv_at hl 1 rfl) ?_
                refine lv_iconst (v := 1) C0.1 C0.2.1 dL_law_527 (by decide) ?_
                refine lv_iconst (v := 3) C0.1 C0.2.1 dL_law_528 (by decide) ?_
                refine lv_iconst (v := 4) C0.1 C0.2.1 dL_law_529 (by decide) ?_
                refine lv_aload C0.1 C0.2.1 dL_law_530 (lv_at hl 4 rfl) ?_
                refine lv_iconst (v := 2) C0.1 C0.2.1 dL_law_532 (by decide) ?_
                obtain ⟨i30, h⟩ := h
                obtain ⟨e31, h⟩ := h
                refine r_iald C0 hO i30 e31 dL_law_533 ?_
                refine lv_aload C0.1 C0.2.1 dL_law_534 (lv_at hl 5 rfl) ?_
                refine lv_iconst (v := 2) C0.1 C0.2.1 dL_law_536 (by decide) ?_
                obtain ⟨i32, h⟩ := h
                obtain ⟨e33, h⟩ := h
                refine r_iald C0 hO i32 e33 dL_law_537 ?_
                refine c_SW C0 hO hS (mL_planets hl9 h) tb_719 tb_720 tb_26 tb_721 hd_L_planets rfl ⟨⟨by decide, by decide⟩, by show _ + 97 ≤ 668972; omega, by show _ + 2225 ≤ 7086985; omega⟩ hl.1 rfl (Nat.le_of_ble_eq_true rfl) dL_law_538 (kI (fun r35 S34 H locs h hO hS => ?_))
                change W _ _ _ _ _ _ _ _ _ _ _ _ (_ + 97) (_ + 2225) _ _
                refine lv_iconst (v := 2) C0.1 C0.2.1 dL_law_541 (by decide) ?_
                refine lv_icmp_ne (tgt := 549) C0.1 C0.2.1 dL_law_542 (by decide) (fun c36 => ?_) (fun c36 => ?_)
                · replace h := h.1 c36
                  exact bL_law_b549 C0 Y hl9 hend9 _ _ _ _ _ _ _ _ _ _ _ _ _ h hO hS (lv_sub hl [0, 1, 3, 4, 5, 6, 7] rfl) (by clear h; omega) (by clear h; omega)
                · replace h := h.2 c36
                  refine lv_iconst (v := 1) C0.1 C0.2.1 dL_law_545 (by decide) ?_
                  refine lv_goto (tgt := 550) C0.1 C0.2.1 dL_law_546 (by decide) ?_
                  exact bL_law_b550 C0 Y hl9 hend9 _ _ _ _ _ _ _ _ _ _ _ _ _ _ h hO hS (lv_sub hl [0, 1, 3, 4, 5, 6, 7] rfl) (by clear h; omega) (by clear h; omega)
  · replace h := h.2 c1
    refine lv_aload_n C0.1 C0.2.1 dL_law_138 rfl (lv_at hl 0 rfl) ?_
    refine lv_iload C0.1 C0.2.1 dL_law_139 (lv_at hl 8 rfl) ?_
    refine lv_iconst (v := 5) C0.1 C0.2.1 dL_law_141 (by decide) ?_
    refine c_S C0 hO hS (mL_in h) tb_843 tb_844 tb_26 tb_845 hd_L_in rfl ⟨⟨by decide, by decide⟩, by show _ + 0 ≤ 668972; omega, by show _ + 0 ≤ 7086985; omega⟩ hl.1 rfl (Nat.le_of_ble_eq_true rfl) dL_law_142 (kI (fun r38 S37 H locs h hO hS => ?_))
    change W _ _ _ _ _ _ _ _ _ _ _ _ (_ + 0) (_ + 0) _ _
    refine lv_istore C0.1 C0.2.1 dL_law_145 hl (by decide) rfl (fun ls hl => ?_)
    refine lv_aload_n C0.1 C0.2.1 dL_law_147 rfl (lv_at hl 4 rfl) ?_
    refine lv_iload C0.1 C0.2.1 dL_law_148 (lv_at hl 9 rfl) ?_
    refine lv_iload C0.1 C0.2.1 dL_law_150 (lv_at hl 0 rfl) ?_
    refine lv_if_ne (tgt := 160) C0.1 C0.2.1 dL_law_152 (by decide) (fun c39 => ?_) (fun c39 => ?_)
    · replace h := h.1 c39
      refine lv_iload C0.1 C0.2.1 dL_law_160 (lv_at hl 0 rfl) ?_
      refine lv_iconst (v := 1) C0.1 C0.2.1 dL_law_162 (by decide) ?_
      refine lv_icmp_ne (tgt := 171) C0.1 C0.2.1 dL_law_163 (by decide) (fun c40 => ?_) (fun c40 => ?_)
      · replace h := h.1 c40
        refine lv_iload C0.1 C0.2.1 dL_law_171 (lv_at hl 0 rfl) ?_
        refine lv_iconst (v := 2) C0.1 C0.2.1 dL_law_173 (by decide) ?_
        refine lv_icmp_ne (tgt := 182) C0.1 C0.2.1 dL_law_174 (by decide) (fun c41 => ?_) (fun c41 => ?_)
        · replace h := h.1 c41
          refine lv_iload C0.1 C0.2.1 dL_law_182 (lv_at hl 0 rfl) ?_
          refine lv_iconst (v := 3) C0.1 C0.2.1 dL_law_184 (by decide) ?_
          refine lv_icmp_ne (tgt := 193) C0.1 C0.2.1 dL_law_185 (by decide) (fun c42 => ?_) (fun c42 => ?_)
          · replace h := h.1 c42
            refine lv_bipush (v := 107) C0.1 C0.2.1 dL_law_193 (by decide) ?_
            exact bL_law_b195 C0 Y hl9 hend9 hk132 _ _ _ _ _ _ _ _ _ _ _ _ _ _ _ _ _ _ h hO hS (lv_sub hl [1, 2, 3, 4, 5, 6, 7, 8, 9, 0] rfl) (by clear h; omega) (by clear h; omega)
          · replace h := h.2 c42
            refine lv_bipush (v := 114) C0.1 C0.2.1 dL_law_188 (by decide) ?_
            refine lv_goto (tgt := 195) C0.1 C0.2.1 dL_law_190 (by decide) ?_
            exact bL_law_b195 C0 Y hl9 hend9 hk132 _ _ _ _ _ _ _ _ _ _ _ _ _ _ _ _ _ _ h hO hS (lv_sub hl [1, 2, 3, 4, 5, 6, 7, 8, 9, 0] rfl) (by clear h; omega) (by clear h; omega)
        · replace h := h.2 c41
          refine lv_bipush (v := 118) C0.1 C0.2.1 dL_law_177 (by decide) ?_
          refine lv_goto (tgt := 195) C0.1 C0.2.1 dL_law_179 (by decide) ?_
          exact bL_law_b195 C0 Y hl9 hend9 hk132 _ _ _ _ _ _ _ _ _ _ _ _ _ _ _ _ _ _ h hO hS (lv_sub hl [1, 2, 3, 4, 5, 6, 7, 8, 9, 0] rfl) (by clear h; omega) (by clear h; omega)
      · replace h := h.2 c40
        refine lv_bipush (v := 105) C0.1 C0.2.1 dL_law_166 (by decide) ?_
        refine lv_goto (tgt := 195) C0.1 C0.2.1 dL_law_168 (by decide) ?_
        exact bL_law_b195 C0 Y hl9 hend9 hk132 _ _ _ _ _ _ _ _ _ _ _ _ _ _ _ _ _ _ h hO hS (lv_sub hl [1, 2, 3, 4, 5, 6, 7, 8, 9, 0] rfl) (by clear h; omega) (by clear h; omega)
    · replace h := h.2 c39
      refine lv_bipush (v := 103) C0.1 C0.2.1 dL_law_155 (by decide) ?_
      refine lv_goto (tgt := 195) C0.1 C0.2.1 dL_law_157 (by decide) ?_
      exact bL_law_b195 C0 Y hl9 hend9 hk132 _ _ _ _ _ _ _ _ _ _ _ _ _ _ _ _ _ _ h hO hS (lv_sub hl [1, 2, 3, 4, 5, 6, 7, 8, 9, 0] rfl) (by clear h; omega) (by clear h; omega)
set_option maxHeartbeats 4000000 in
set_option maxRecDepth 100000 in
theorem lL_law_b132 {p : Program} {l : Launch} {e : Env} {s : State} {m : MethodId} {args : Array Value} {below : List Frame} {meth : Method} {c : Code} {G : Gw} {Q : State → Prop}  (C0 : Mx p s m c code 37 args yL_law.cls G) (Y : My meth (some .boolean)) (hl9 : l.stackTraces = false) (hend9 : ∀ (pc : Nat) (H : Heap) (locs : List Loc) (ls : Array Slot) (cells slots : Nat), decode code pc = .ok (.ireturn, 1) → va_S (Ab G.b) s.heap H locs → cells ≤ 668972 → slots ≤ 7086985 → W p l e room_1 s m args below meth c H locs cells slots Q (F0 m pc ls [.int 1]))  : ∀ n9 : Nat, ∀ (S : Hp) (v1 : Nat) (v2 : Int32) (v3 : Nat) (v4 : Nat) (v5 : Nat) (v6 : Nat) (v7 : Nat) (v8 : Int32) (H : Heap) (locs : List Loc) (ls : Array Slot) (cells slots : Nat), it9 (wL_law_b132 G.xs G.xl) n9 S v1 v2 v3 v4 v5 v6 v7 v8 → Ok G S H → va_S (Ab G.b) s.heap H locs → lv_has ls 37 [(0, .ref G.xb), (1, .ref v1), (2, .int v2), (3, .ref v3), (4, .ref v4), (5, .ref v5), (6, .ref v6), (7, .ref v7), (8, .int v8)] → cells + (n9 * 282 + 1444) ≤ 668972 → slots + (n9 * 6621 + 19553) ≤ 7086985 → W p l e room_1 s m args below meth c H locs cells slots Q (F0 m 132 ls []) := by
  intro n9
  induction n9 with
  | zero => intro S v1 v2 v3 v4 v5 v6 v7 v8 H locs ls cells slots h; exact (h : False).elim
  | succ n9 ih => intro S v1 v2 v3 v4 v5 v6 v7 v8 H locs ls cells slots h hO hS hl hcc hss; exact bL_law_b132 C0 Y hl9 hend9 (n9_132 := n9) ih S v1 v2 v3 v4 v5 v6 v7 v8 H locs ls cells slots h hO hS hl (by omega) (by omega)
def wL_law_b34 (x0 : (Nat → Int32)) (L9 : Nat) (k34 : Hp → Nat → Int32 → Int32 → Prop) (S : Hp) (v1 : Nat) (v2 : Int32) (v3 : Int32) : Prop := ((5 ≤ v3 → ∀ a2 S3, a2 ∉ S.L → S3 = S.new a2 20 4 → ∀ a4 S5, a4 ∉ S3.L → S5 = S3.new a4 21 4 → ∀ a6 S7, a6 ∉ S5.L → S7 = S5.new a6 21 4 → ∀ a8 S9, a8 ∉ S7.L → S9 = S7.new a8 21 3 → vp_in 0 (S9.N a8) ∧ ∀ S11, S11 = S9.setAI a8 ((0 : Int32).toNatClampNeg) 0 → vp_in 1 (S11.N a8) ∧ ∀ S13, S13 = S11.setAI a8 ((1 : Int32).toNatClampNeg) 1 → vp_in 2 (S13.N a8) ∧ ∀ S15, S15 = S13.setAI a8 ((2 : Int32).toNatClampNeg) 1 → ∀ a16 S17, a16 ∉ S15.L → S17 = S15.new a16 21 3 → vp_in 0 (S17.N a16) ∧ ∀ S19, S19 = S17.setAI a16 ((0 : Int32).toNatClampNeg) 1 → vp_in 1 (S19.N a16) ∧ ∀ S21, S21 = S19.setAI a16 ((1 : Int32).toNatClampNeg) 2 → vp_in 2 (S21.N a16) ∧ ∀ S23, S23 = S21.setAI a16 ((2 : Int32).toNatClampNeg) 4 → it9 (wL_law_b132 x0 L9) 3 S23 v1 v2 a2 a4 a6 a8 a16 0) ∧ (¬ (5 ≤ v3) → wL_shaft S v1 (fun S24 r25 => ((¬ r25 = v3 → wL_law_b72 x0 L9 k34 S24 v1 v3 v2) ∧ (r25 = v3 → wL_placeOver S24 v1 v3 (fun S27 r28 => ((¬ (lg_cmp r28 0) = 0 → wL_law_b72 x0 L9 k34 S27 v1 v3 v2) ∧ ((lg_cmp r28 0) = 0 → wL_placeUnder S27 v1 v3 (fun S30 r31 => ((¬ (lg_cmp r31 1) = 0 → wL_law_b72 x0 L9 k34 S30 v1 v3 v2) ∧ ((lg_cmp r31 1) = 0 → wL_law_b73 x0 L9 k34 S30 v1 v3 v2 1)))))))))))
set_option maxHeartbeats 4000000 in
set_option maxRecDepth 100000 in
theorem bL_law_b34 {p : Program} {l : Launch} {e : Env} {s : State} {m : MethodId} {args : Array Value} {below : List Frame} {meth : Method} {c : Code} {G : Gw} {Q : State → Prop}  (C0 : Mx p s m c code 37 args yL_law.cls G) (Y : My meth (some .boolean)) (hl9 : l.stackTraces = false) (hend9 : ∀ (pc : Nat) (H : Heap) (locs : List Loc) (ls : Array Slot) (cells slots : Nat), decode code pc = .ok (.ireturn, 1) → va_S (Ab G.b) s.heap H locs → cells ≤ 668972 → slots ≤ 7086985 → W p l e room_1 s m args below meth c H locs cells slots Q (F0 m pc ls [.int 1])) {n9_34 : Nat} {k34 : Hp → Nat → Int32 → Int32 → Prop} (hk34 : ∀ (S : Hp) (v1 : Nat) (v2 : Int32) (v3 : Int32) (H : Heap) (locs : List Loc) (ls : Array Slot) (cells slots : Nat), k34 S v1 v2 v3 → Ok G S H → va_S (Ab G.b) s.heap H locs → lv_has ls 37 [(0, .ref G.xb), (1, .ref v1), (2, .int v2), (3, .int v3)] → cells + (n9_34 * 3 + 2295) ≤ 668972 → slots + (n9_34 * 18 + 39434) ≤ 7086985 → W p l e room_1 s m args below meth c H locs cells slots Q (F0 m 34 ls [])) : ∀ (S : Hp) (v1 : Nat) (v2 : Int32) (v3 : Int32) (H : Heap) (locs : List Loc) (ls : Array Slot) (cells slots : Nat), wL_law_b34 G.xs G.xl k34 S v1 v2 v3 → Ok G S H → va_S (Ab G.b) s.heap H locs → lv_has ls 37 [(0, .ref G.xb), (1, .ref v1), (2, .int v2), (3, .int v3)] → cells + (n9_34 * 3 + 2298) ≤ 668972 → slots + (n9_34 * 18 + 39452) ≤ 7086985 → W p l e room_1 s m args below meth c H locs cells slots Q (F0 m 34 ls []) := by
  intro S v1 v2 v3 H locs ls cells slots h hO hS hl hcc hss
  unfold wL_law_b34 at h
  refine lv_iload_n C0.1 C0.2.1 dL_law_34 rfl (lv_at hl 3 rfl) ?_
  refine lv_iconst (v := 5) C0.1 C0.2.1 dL_law_35 (by decide) ?_
  refine lv_icmp_ge (tgt := 81) C0.1 C0.2.1 dL_law_36 (by decide) (fun c1 => ?_) (fun c1 => ?_)
  · replace h := h.1 c1
    refine lv_iconst (v := 4) C0.1 C0.2.1 dL_law_81 (by decide) ?_
    refine n_20k (k := 4) C0 hO hS (by decide) (by show _ ≤ 668972; omega) (by show _ ≤ 7086985; omega) dL_law_82 (fun a2 H hna2 hO hS => ?_)
    replace h := h a2 _ hna2 rfl
    refine lv_astore_n C0.1 C0.2.1 dL_law_84 rfl hl (by decide) rfl (fun ls hl => ?_)
    refine lv_iconst (v := 4) C0.1 C0.2.1 dL_law_85 (by decide) ?_
    refine n_21k (k := 4) C0 hO hS (by decide) (by show _ ≤ 668972; omega) (by show _ ≤ 7086985; omega) dL_law_86 (fun a4 H hna4 hO hS => ?_)
    replace h := h a4 _ hna4 rfl
    refine lv_astore C0.1 C0.2.1 dL_law_88 hl (by decide) rfl (fun ls hl => ?_)
    refine lv_iconst (v := 4) C0.1 C0.2.1 dL_law_90 (by decide) ?_
    refine n_21k (k := 4) C0 hO hS (by decide) (by show _ ≤ 668972; omega) (by show _ ≤ 7086985; omega) dL_law_91 (fun a6 H hna6 hO hS => ?_)
    replace h := h a6 _ hna6 rfl
    refine lv_astore C0.1 C0.2.1 dL_law_93 hl (by decide) rfl (fun ls hl => ?_)
    refine lv_iconst (v := 3) C0.1 C0.2.1 dL_law_95 (by decide) ?_
    refine n_21k (k := 3) C0 hO hS (by decide) (by show _ ≤ 668972; omega) (by show _ ≤ 7086985; omega) dL_law_96 (fun a8 H hna8 hO hS => ?_)
    replace h := h a8 _ hna8 rfl
    refine lv_dup C0.1 C0.2.1 dL_law_98 rfl ?_
    refine lv_iconst (v := 0) C0.1 C0.2.1 dL_law_99 (by decide) ?_
    refine lv_iconst (v := 0) C0.1 C0.2.1 dL_law_100 (by decide) ?_
    obtain ⟨e10, h⟩ := h
    refine r_iast C0 hO hS new_isA e10 dL_law_101 (fun H locs hO hS => ?_)
    replace h := h _ rfl
    refine lv_dup C0.1 C0.2.1 dL_law_102 rfl ?_
    refine lv_iconst (v := 1) C0.1 C0.2.1 dL_law_103 (by decide) ?_
    refine lv_iconst (v := 1) C0.1 C0.2.1 dL_law_104 (by decide) ?_
    obtain ⟨e12, h⟩ := h
    refine r_iast C0 hO hS (sA_AI new_isA) e12 dL_law_105 (fun H locs hO hS => ?_)
    replace h := h _ rfl
    refine lv_dup C0.1 C0.2.1 dL_law_106 rfl ?_
    refine lv_iconst (v := 2) C0.1 C0.2.1 dL_law_107 (by decide) ?_
    refine lv_iconst (v := 1) C0.1 C0.2.1 dL_law_108 (by decide) ?_
    obtain ⟨e14, h⟩ := h
    refine r_iast C0 hO hS (sA_AI (sA_AI new_isA)) e14 dL_law_109 (fun H locs hO hS => ?_)
    replace h := h _ rfl
    refine lv_astore C0.1 C0.2.1 dL_law_110 hl (by decide) rfl (fun ls hl => ?_)
    refine lv_iconst (v := 3) C0.1 C0.2.1 dL_law_112 (by decide) ?_
    refine n_21k (k := 3) C0 hO hS (by decide) (by show _ ≤ 668972; omega) (by show _ ≤ 7086985; omega) dL_law_113 (fun a16 H hna16 hO hS => ?_)
    replace h := h a16 _ hna16 rfl
    refine lv_dup C0.1 C0.2.1 dL_law_115 rfl ?_
    refine lv_iconst (v := 0) C0.1 C0.2.1 dL_law_116 (by decide) ?_
    refine lv_iconst (v := 1) C0.1 C0.2.1 dL_law_117 (by decide) ?_
    obtain ⟨e18, h⟩ := h
    refine r_iast C0 hO hS new_isA e18 dL_law_118 (fun H locs hO hS => ?_)
    replace h := h _ rfl
    refine lv_dup C0.1 C0.2.1 dL_law_119 rfl ?_
    refine lv_iconst (v := 1) C0.1 C0.2.1 dL_law_120 (by decide) ?_
    refine lv_iconst (v := 2) C0.1 C0.2.1 dL_law_121 (by decide) ?_
    obtain ⟨e20, h⟩ := h
    refine r_iast C0 hO hS (sA_AI new_isA) e20 dL_law_122 (fun H locs hO hS => ?_)
    replace h := h _ rfl
    refine lv_dup C0.1 C0.2.1 dL_law_123 rfl ?_
    refine lv_iconst (v := 2) C0.1 C0.2.1 dL_law_124 (by decide) ?_
    refine lv_iconst (v := 4) C0.1 C0.2.1 dL_law_125 (by decide) ?_
    obtain ⟨e22, h⟩ := h
    refine r_iast C0 hO hS (sA_AI (sA_AI new_isA)) e22 dL_law_126 (fun H locs hO hS => ?_)
    replace h := h _ rfl
    refine lv_astore C0.1 C0.2.1 dL_law_127 hl (by decide) rfl (fun ls hl => ?_)
    refine lv_iconst (v := 0) C0.1 C0.2.1 dL_law_129 (by decide) ?_
    refine lv_istore C0.1 C0.2.1 dL_law_130 hl (by decide) rfl (fun ls hl => ?_)
    exact lL_law_b132 C0 Y hl9 hend9 3 _ _ _ _ _ _ _ _ _ _ _ _ _ _ h hO hS (lv_sub hl [6, 7, 8, 5, 4, 3, 2, 1, 0] rfl) (by clear h; omega) (by clear h; omega)
  · replace h := h.2 c1
    refine lv_iload_n C0.1 C0.2.1 dL_law_39 rfl (lv_at hl 2 rfl) ?_
    refine lv_aload_n C0.1 C0.2.1 dL_law_40 rfl (lv_at hl 1 rfl) ?_
    refine c_SW C0 hO hS (mL_shaft hl9 h) tb_492 tb_493 tb_26 tb_494 hd_L_shaft rfl ⟨⟨by decide, by decide⟩, by show _ + 1 ≤ 668972; omega, by show _ + 6 ≤ 7086985; omega⟩ hl.1 rfl (Nat.le_of_ble_eq_true rfl) dL_law_41 (kI (fun r25 S24 H locs h hO hS => ?_))
    change W _ _ _ _ _ _ _ _ _ _ _ _ (_ + 1) (_ + 6) _ _
    refine lv_iload_n C0.1 C0.2.1 dL_law_44 rfl (lv_at hl 3 rfl) ?_
    refine lv_icmp_ne (tgt := 72) C0.1 C0.2.1 dL_law_45 (by decide) (fun c26 => ?_) (fun c26 => ?_)
    · replace h := h.1 c26
      exact bL_law_b72 C0 Y hl9 hend9 hk34 _ _ _ _ _ _ _ _ _ h hO hS (lv_sub hl [0, 1, 3] rfl) (by clear h; omega) (by clear h; omega)
    · replace h := h.2 c26
      refine lv_aload_n C0.1 C0.2.1 dL_law_48 rfl (lv_at hl 1 rfl) ?_
      refine lv_iload_n C0.1 C0.2.1 dL_law_49 rfl (lv_at hl 3 rfl) ?_
      refine c_SW C0 hO hS (mL_placeOver hl9 h) tb_814 tb_815 tb_26 tb_816 hd_L_placeOver rfl ⟨⟨by decide, by decide⟩, by show _ + 1 ≤ 668972; omega, by show _ + 6 ≤ 7086985; omega⟩ hl.1 rfl (Nat.le_of_ble_eq_true rfl) dL_law_50 (kJ (fun r28 S27 H locs h hO hS => ?_))
      change W _ _ _ _ _ _ _ _ _ _ _ _ (_ + 1) (_ + 6) _ _
      refine lv_lconst (v := 0) C0.1 C0.2.1 dL_law_53 (by decide) ?_
      refine W.lcmp C0.1 C0.2.1 dL_law_54 ?_
      refine lv_if_ne (tgt := 72) C0.1 C0.2.1 dL_law_55 (by decide) (fun c29 => ?_) (fun c29 => ?_)
      · replace h := h.1 c29
        exact bL_law_b72 C0 Y hl9 hend9 hk34 _ _ _ _ _ _ _ _ _ h hO hS (lv_sub hl [0, 1, 3] rfl) (by clear h; omega) (by clear h; omega)
      · replace h := h.2 c29
        refine lv_aload_n C0.1 C0.2.1 dL_law_58 rfl (lv_at hl 1 rfl) ?_
        refine lv_iload_n C0.1 C0.2.1 dL_law_59 rfl (lv_at hl 3 rfl) ?_
        refine c_SW C0 hO hS (mL_placeUnder hl9 h) tb_822 tb_823 tb_26 tb_824 hd_L_placeUnder rfl ⟨⟨by decide, by decide⟩, by show _ + 1 ≤ 668972; omega, by show _ + 6 ≤ 7086985; omega⟩ hl.1 rfl (Nat.le_of_ble_eq_true rfl) dL_law_60 (kJ (fun r31 S30 H locs h hO hS => ?_))
        change W _ _ _ _ _ _ _ _ _ _ _ _ (_ + 1) (_ + 6) _ _
        refine lv_lconst (v := 1) C0.1 C0.2.1 dL_law_63 (by decide) ?_
        refine W.lcmp C0.1 C0.2.1 dL_law_64 ?_
        refine lv_if_ne (tgt := 72) C0.1 C0.2.1 dL_law_65 (by decide) (fun c32 => ?_) (fun c32 => ?_)
        · replace h := h.1 c32
          exact bL_law_b72 C0 Y hl9 hend9 hk34 _ _ _ _ _ _ _ _ _ h hO hS (lv_sub hl [0, 1, 3] rfl) (by clear h; omega) (by clear h; omega)
        · replace h := h.2 c32
          refine lv_iconst (v := 1) C0.1 C0.2.1 dL_law_68 (by decide) ?_
          refine lv_goto (tgt := 73) C0.1 C0.2.1 dL_law_69 (by decide) ?_
          exact bL_law_b73 C0 Y hl9 hend9 hk34 _ _ _ _ _ _ _ _ _ _ h hO hS (lv_sub hl [0, 1, 3] rfl) (by clear h; omega) (by clear h; omega)
set_option maxHeartbeats 4000000 in
set_option maxRecDepth 100000 in
theorem lL_law_b34 {p : Program} {l : Launch} {e : Env} {s : State} {m : MethodId} {args : Array Value} {below : List Frame} {meth : Method} {c : Code} {G : Gw} {Q : State → Prop}  (C0 : Mx p s m c code 37 args yL_law.cls G) (Y : My meth (some .boolean)) (hl9 : l.stackTraces = false) (hend9 : ∀ (pc : Nat) (H : Heap) (locs : List Loc) (ls : Array Slot) (cells slots : Nat), decode code pc = .ok (.ireturn, 1) → va_S (Ab G.b) s.heap H locs → cells ≤ 668972 → slots ≤ 7086985 → W p l e room_1 s m args below meth c H locs cells slots Q (F0 m pc ls [.int 1]))  : ∀ n9 : Nat, ∀ (S : Hp) (v1 : Nat) (v2 : Int32) (v3 : Int32) (H : Heap) (locs : List Loc) (ls : Array Slot) (cells slots : Nat), it4 (wL_law_b34 G.xs G.xl) n9 S v1 v2 v3 → Ok G S H → va_S (Ab G.b) s.heap H locs → lv_has ls 37 [(0, .ref G.xb), (1, .ref v1), (2, .int v2), (3, .int v3)] → cells + (n9 * 3 + 2295) ≤ 668972 → slots + (n9 * 18 + 39434) ≤ 7086985 → W p l e room_1 s m args below meth c H locs cells slots Q (F0 m 34 ls []) := by
  intro n9
  induction n9 with
  | zero => intro S v1 v2 v3 H locs ls cells slots h; exact (h : False).elim
  | succ n9 ih => intro S v1 v2 v3 H locs ls cells slots h hO hS hl hcc hss; exact bL_law_b34 C0 Y hl9 hend9 (n9_34 := n9) ih S v1 v2 v3 H locs ls cells slots h hO hS hl (by omega) (by omega)
def wL_law_b31 (x0 : (Nat → Int32)) (L9 : Nat) (S : Hp) (v1 : Nat) (z0 : Int32) : Prop := it4 (wL_law_b34 x0 L9) 6 S v1 z0 0
set_option maxHeartbeats 4000000 in
set_option maxRecDepth 100000 in
theorem bL_law_b31 {p : Program} {l : Launch} {e : Env} {s : State} {m : MethodId} {args : Array Value} {below : List Frame} {meth : Method} {c : Code} {G : Gw} {Q : State → Prop}  (C0 : Mx p s m c code 37 args yL_law.cls G) (Y : My meth (some .boolean)) (hl9 : l.stackTraces = false) (hend9 : ∀ (pc : Nat) (H : Heap) (locs : List Loc) (ls : Array Slot) (cells slots : Nat), decode code pc = .ok (.ireturn, 1) → va_S (Ab G.b) s.heap H locs → cells ≤ 668972 → slots ≤ 7086985 → W p l e room_1 s m args below meth c H locs cells slots Q (F0 m pc ls [.int 1]))  : ∀ (S : Hp) (v1 : Nat) (z0 : Int32) (H : Heap) (locs : List Loc) (ls : Array Slot) (cells slots : Nat), wL_law_b31 G.xs G.xl S v1 z0 → Ok G S H → va_S (Ab G.b) s.heap H locs → lv_has ls 37 [(0, .ref G.xb), (1, .ref v1)] → cells + (2313) ≤ 668972 → slots + (39542) ≤ 7086985 → W p l e room_1 s m args below meth c H locs cells slots Q (F0 m 31 ls [.int z0]) := by
  intro S v1 z0 H locs ls cells slots h hO hS hl hcc hss
  unfold wL_law_b31 at h
  refine lv_istore_n C0.1 C0.2.1 dL_law_31 rfl hl (by decide) rfl (fun ls hl => ?_)
  refine lv_iconst (v := 0) C0.1 C0.2.1 dL_law_32 (by decide) ?_
  refine lv_istore_n C0.1 C0.2.1 dL_law_33 rfl hl (by decide) rfl (fun ls hl => ?_)
  exact lL_law_b34 C0 Y hl9 hend9 6 _ _ _ _ _ _ _ _ _ h hO hS (lv_sub hl [2, 3, 1, 0] rfl) (by clear h; omega) (by clear h; omega)
def wL_law_b30 (x0 : (Nat → Int32)) (L9 : Nat) (S : Hp) (v1 : Nat) : Prop := wL_law_b31 x0 L9 S v1 0
set_option maxHeartbeats 4000000 in
set_option maxRecDepth 100000 in
theorem bL_law_b30 {p : Program} {l : Launch} {e : Env} {s : State} {m : MethodId} {args : Array Value} {below : List Frame} {meth : Method} {c : Code} {G : Gw} {Q : State → Prop}  (C0 : Mx p s m c code 37 args yL_law.cls G) (Y : My meth (some .boolean)) (hl9 : l.stackTraces = false) (hend9 : ∀ (pc : Nat) (H : Heap) (locs : List Loc) (ls : Array Slot) (cells slots : Nat), decode code pc = .ok (.ireturn, 1) → va_S (Ab G.b) s.heap H locs → cells ≤ 668972 → slots ≤ 7086985 → W p l e room_1 s m args below meth c H locs cells slots Q (F0 m pc ls [.int 1]))  : ∀ (S : Hp) (v1 : Nat) (H : Heap) (locs : List Loc) (ls : Array Slot) (cells slots : Nat), wL_law_b30 G.xs G.xl S v1 → Ok G S H → va_S (Ab G.b) s.heap H locs → lv_has ls 37 [(0, .ref G.xb), (1, .ref v1)] → cells + (2313) ≤ 668972 → slots + (39542) ≤ 7086985 → W p l e room_1 s m args below meth c H locs cells slots Q (F0 m 30 ls []) := by
  intro S v1 H locs ls cells slots h hO hS hl hcc hss
  unfold wL_law_b30 at h
  refine lv_iconst (v := 0) C0.1 C0.2.1 dL_law_30 (by decide) ?_
  exact bL_law_b31 C0 Y hl9 hend9 _ _ _ _ _ _ _ _ h hO hS (lv_sub hl [0, 1] rfl) (by clear h; omega) (by clear h; omega)
def wL_law_b0 (x0 : (Nat → Int32)) (L9 : Nat) (S : Hp) : Prop := ∀ a1 S2, a1 ∉ S.L → S2 = S.new a1 7 0 → wX7_init S2 a1 (fun S3 => wL_turn S3 a1 0 1 (fun S4 r5 => ((¬ r5 = (-900001) → wL_law_b30 x0 L9 S4 a1) ∧ (r5 = (-900001) → isA S4 a1 7 ∧ wX7_freedom S4 a1 (fun S7 r8 => ((¬ r8 = 0 → wL_law_b30 x0 L9 S7 a1) ∧ (r8 = 0 → wL_law_b31 x0 L9 S7 a1 1)))))))
set_option maxHeartbeats 4000000 in
set_option maxRecDepth 100000 in
theorem bL_law_b0 {p : Program} {l : Launch} {e : Env} {s : State} {m : MethodId} {args : Array Value} {below : List Frame} {meth : Method} {c : Code} {G : Gw} {Q : State → Prop}  (C0 : Mx p s m c code 37 args yL_law.cls G) (Y : My meth (some .boolean)) (hl9 : l.stackTraces = false) (hend9 : ∀ (pc : Nat) (H : Heap) (locs : List Loc) (ls : Array Slot) (cells slots : Nat), decode code pc = .ok (.ireturn, 1) → va_S (Ab G.b) s.heap H locs → cells ≤ 668972 → slots ≤ 7086985 → W p l e room_1 s m args below meth c H locs cells slots Q (F0 m pc ls [.int 1]))  : ∀ (S : Hp) (H : Heap) (locs : List Loc) (ls : Array Slot) (cells slots : Nat), wL_law_b0 G.xs G.xl S → Ok G S H → va_S (Ab G.b) s.heap H locs → lv_has ls 37 [(0, .ref G.xb)] → cells + (2367) ≤ 668972 → slots + (40305) ≤ 7086985 → W p l e room_1 s m args below meth c H locs cells slots Q (F0 m 0 ls []) := by
  intro S H locs ls cells slots h hO hS hl hcc hss
  unfold wL_law_b0 at h
  refine n_7 C0 hO hS tb_52 tb_53 tb_27 (by show _ ≤ 668972; omega) (by show _ ≤ 7086985; omega) dL_law_0 (fun a1 H hna1 hO hS => ?_)
  replace h := h a1 _ hna1 rfl
  refine lv_dup C0.1 C0.2.1 dL_law_3 rfl ?_
  refine c_I C0 hO hS (mX7_init h) tb_54 tb_55 tb_27 tb_56 rfl hd_X7_init rfl ⟨⟨by decide, by decide⟩, by show _ + 50 ≤ 668972; omega, by show _ + 729 ≤ 7086985; omega⟩ hl.1 rfl (Nat.le_of_ble_eq_true rfl) dL_law_4 (kV (fun S3 H locs h hO hS => ?_))
  change W _ _ _ _ _ _ _ _ _ _ _ _ (_ + 50) (_ + 729) _ _
  refine lv_astore_n C0.1 C0.2.1 dL_law_7 rfl hl (by decide) rfl (fun ls hl => ?_)
  refine lv_aload_n C0.1 C0.2.1 dL_law_8 rfl (lv_at hl 0 rfl) ?_
  refine lv_iconst (v := 0) C0.1 C0.2.1 dL_law_9 (by decide) ?_
  refine lv_iconst (v := 1) C0.1 C0.2.1 dL_law_10 (by decide) ?_
  refine c_SW C0 hO hS (mL_turn hl9 h) tb_731 tb_732 tb_26 tb_733 hd_L_turn rfl ⟨⟨by decide, by decide⟩, by show _ + 3 ≤ 668972; omega, by show _ + 18 ≤ 7086985; omega⟩ hl.1 rfl (Nat.le_of_ble_eq_true rfl) dL_law_11 (kI (fun r5 S4 H locs h hO hS => ?_))
  change W _ _ _ _ _ _ _ _ _ _ _ _ (_ + 3) (_ + 18) _ _
  refine lv_ldc (v := (-900001)) C0.1 C0.2.1 C0.2.2.2.1 (C0.2.2.2.2.1 _ tb_516) dL_law_14 ?_
  refine lv_icmp_ne (tgt := 30) C0.1 C0.2.1 dL_law_16 (by decide) (fun c6 => ?_) (fun c6 => ?_)
  · replace h := h.1 c6
    exact bL_law_b30 C0 Y hl9 hend9 _ _ _ _ _ _ _ h hO hS (lv_sub hl [1, 0] rfl) (by clear h; omega) (by clear h; omega)
  · replace h := h.2 c6
    refine lv_aload_n C0.1 C0.2.1 dL_law_19 rfl (lv_at hl 0 rfl) ?_
    obtain ⟨i9, h⟩ := h
    refine c_V C0 hO hS (mX7_freedom h) i9 (by decide) rfl rfl tb_184 tb_185 tb_186 tb_27 tb_187 hd_X7_freedom rfl ⟨⟨by decide, by decide⟩, by show _ + 0 ≤ 668972; omega, by show _ + 0 ≤ 7086985; omega⟩ hl.1 rfl (Nat.le_of_ble_eq_true rfl) dL_law_20 (kI (fun r8 S7 H locs h hO hS => ?_))
    change W _ _ _ _ _ _ _ _ _ _ _ _ (_ + 0) (_ + 0) _ _
    refine lv_if_ne (tgt := 30) C0.1 C0.2.1 dL_law_23 (by decide) (fun c10 => ?_) (fun c10 => ?_)
    · replace h := h.1 c10
      exact bL_law_b30 C0 Y hl9 hend9 _ _ _ _ _ _ _ h hO hS (lv_sub hl [1, 0] rfl) (by clear h; omega) (by clear h; omega)
    · replace h := h.2 c10
      refine lv_iconst (v := 1) C0.1 C0.2.1 dL_law_26 (by decide) ?_
      refine lv_goto (tgt := 31) C0.1 C0.2.1 dL_law_27 (by decide) ?_
      exact bL_law_b31 C0 Y hl9 hend9 _ _ _ _ _ _ _ _ h hO hS (lv_sub hl [1, 0] rfl) (by clear h; omega) (by clear h; omega)
def wL_law (S : Hp) (x0 : Nat → Int32) (L9 : Nat) : Prop := wL_law_b0 x0 L9 S
