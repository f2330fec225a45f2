/-! CALLS, ENDS, THROWS AND NEW THINGS OVER THE POOL -/
theorem lw_ok {w : Cond} (h : w ∈ lw_good) : w ∈ lw_good ∧ ((w.onTables && w.keeps) = true ∨ ∃ ty, w = .arrayClass ty) := ⟨h, good_of_word (List.mem_filter.mp h).2⟩
theorem gd_C {w : Cond} (h : w ∈ lw_good) : GoodIn lw_good (w :: lw_good) := by
  intro x hx
  rcases List.mem_cons.mp hx with rfl | hx
  · exact lw_ok h
  · exact lw_ok hx
theorem gd_V {own : String} {idx : Nat} {C : String} {y : MethodName} {w : Cond} (h1 : Cond.methodLink own idx y ∈ lw_good) (h2 : Cond.instanceMethod y ∈ lw_good) (h3 : Cond.selects C y y ∈ lw_good) (h4 : Cond.initialized C ∈ lw_good) (h5 : w ∈ lw_good) : GoodIn lw_good (wsV own idx C y (w :: lw_good)) := by
  intro x hx
  rcases List.mem_append.mp hx with hx | hx
  · simp only [List.mem_cons, List.not_mem_nil, or_false] at hx
    rcases hx with rfl | rfl | rfl | rfl
    · exact lw_ok h1
    · exact lw_ok h2
    · exact lw_ok h3
    · exact lw_ok h4
  · exact gd_C h5 x hx
theorem gd_S {own : String} {idx : Nat} {y : MethodName} {w : Cond} (h1 : Cond.methodLink own idx y ∈ lw_good) (h2 : Cond.static y ∈ lw_good) (h4 : Cond.initialized y.cls ∈ lw_good) (h5 : w ∈ lw_good) : GoodIn lw_good (va_wsS own idx y (w :: lw_good)) := by
  intro x hx
  rcases List.mem_append.mp hx with hx | hx
  · simp only [List.mem_cons, List.not_mem_nil, or_false] at hx
    rcases hx with rfl | rfl | rfl
    · exact lw_ok h1
    · exact lw_ok h2
    · exact lw_ok h4
  · exact gd_C h5 x hx
/-- what a method's name must be -/
def nmOk (y : MethodName) (n : Nat) : Prop := y.cls ≠ "java/lang/invoke/MethodHandle" ∧ y.cls ≠ "java/lang/invoke/VarHandle" ∧ (parseMethodDescriptor y.desc).map (fun d => d.parameters.length) = some n
/-- room for a callee -/
def rmOk (rm R : Room) (maxL cells slots : Nat) : Prop := (rm.frames + 1 ≤ R.frames ∧ 8 + (maxL + 11) + rm.locals ≤ R.locals) ∧ cells + rm.cells ≤ R.cells ∧ slots + rm.slots ≤ R.slots
section PC
variable {p : Program} {l : Launch} {e : Env} {R : Room} {s : State} {m : MethodId} {args : Array Value} {below : List Frame} {meth : Method} {c : Code} {H : Heap} {locs : List Loc} {cells slots : Nat} {Q : State → Prop}
variable {cc : ByteArray} {pc : Nat} {ls : Array Slot} {rest st0 : List Value} {G : Gw} {S : Hp} {nL : Nat} {own : String} {P P2 : Option Value → Hp → Prop} {Ψ : Hp → String → Prop} {a : Array Value} {mc ms : Nat}
theorem c_fin (hr : va_Run p l e R s m args below meth c H locs cells slots mc ms (F0 m pc ls st0) rest (gQ G P a) (Ab G.b)) (hS : va_S (Ab G.b) s.heap H locs)
    (kk : ∀ (v : Option Value) (S1 : Hp) (H1 : Heap) (locs1 : List Loc), P v S1 → Ok G S1 H1 → va_S (Ab G.b) s.heap H1 locs1 → W p l e R s m args below meth c H1 locs1 (cells + mc) (slots + ms) Q (F0 m (pc + 3) ls (v.toList ++ rest))) : W p l e R s m args below meth c H locs cells slots Q (F0 m pc ls st0) := by
  intro T hT X
  obtain ⟨v, st₀, t, T', L, h0, X', hL, e1, e2, ⟨⟨v', u, hv, hp, hb⟩, hz, hk⟩, st⟩ := hr T hT X
  cases hv
  rw [h0] at hz hk
  obtain ⟨t2, a1, b1⟩ := kk v u T'.heap (locs ++ L) hp (by rw [e1]; exact hb)
    ⟨Nat.le_trans hS.1 (by rw [e1]; exact hz), fun q h1 h2 => by rw [e1, hk q (Nat.lt_of_lt_of_le h1 hS.1) h2]; exact hS.2.1 q h1 h2, fun q hq => by
      rcases List.mem_append.mp hq with h | h
      · exact hS.2.2 q h
      · exact hL q h⟩ T' rfl X'
  exact ⟨t2, st t2 a1, b1⟩
/-- a callee that may throw; what it throws goes on to the caller -/
theorem x_fin (hr : vx_Run p l e R s m args below meth c H locs cells slots mc ms (F0 m pc ls st0) rest (gQ G P a) (gX G Ψ) (Ab G.b)) (hS : va_S (Ab G.b) s.heap H locs)
    (kx : ∀ (E : String) (ce : Cell) (q9 : Addr) (S1 : Hp) (H1 : Heap) (locs1 : List Loc), Ψ S1 E → Ok G S1 H1 → va_S (Ab G.b) s.heap H1 locs1 → H1[q9]? = some ce → ce.vm = .none → s.vm.findClass E = some ce.cls → vx_W p l e R s m args below meth c H1 locs1 (cells + mc) (slots + ms) Q (F0 m pc ls rest) q9)
    (kk : ∀ (v : Option Value) (S1 : Hp) (H1 : Heap) (locs1 : List Loc), P v S1 → Ok G S1 H1 → va_S (Ab G.b) s.heap H1 locs1 → W p l e R s m args below meth c H1 locs1 (cells + mc) (slots + ms) Q (F0 m (pc + 3) ls (v.toList ++ rest))) : W p l e R s m args below meth c H locs cells slots Q (F0 m pc ls st0) := by
  intro T hT X
  rcases hr T hT X with ⟨v, st₀, t, T', L, h0, X', hL, e1, e2, ⟨⟨v', u, hv, hp, hb⟩, hz, hk⟩, st⟩ | ⟨q, st₀, t, T', L, E, ce, h0, X', hL, e1, e2, ⟨u, hp, hb, hz, hk⟩, hce, hcv, hcl, st⟩
  · cases hv
    rw [h0] at hz hk
    obtain ⟨t2, a1, b1⟩ := kk v u T'.heap (locs ++ L) hp (by rw [e1]; exact hb)
      ⟨Nat.le_trans hS.1 (by rw [e1]; exact hz), fun q h1 h2 => by rw [e1, hk q (Nat.lt_of_lt_of_le h1 hS.1) h2]; exact hS.2.1 q h1 h2, fun q hq => by
        rcases List.mem_append.mp hq with h | h
        · exact hS.2.2 q h
        · exact hL q h⟩ T' rfl X'
    exact ⟨t2, st t2 a1, b1⟩
  · rw [h0] at hz hk
    obtain ⟨t2, a1, b1⟩ := kx E ce q u T'.heap (locs ++ L) hp (by rw [e1]; exact hb)
      ⟨Nat.le_trans hS.1 (by rw [e1]; exact hz), fun q h1 h2 => by rw [e1, hk q (Nat.lt_of_lt_of_le h1 hS.1) h2]; exact hS.2.1 q h1 h2, fun q hq => by
        rcases List.mem_append.mp hq with h | h
        · exact hS.2.2 q h
        · exact hL q h⟩ (by rw [e1]; exact hce) hcv hcl T' rfl X'
    exact ⟨t2, st.trans a1, b1⟩
theorem x_out (Y : (meth.sig.returnType = st0.head?.elim none (fun _ => none)) ∨ True) (hlocks : meth.locks = false) (hx9 : ∀ x ∈ c.exceptionTable.toList, False) {E : String} {ce : Cell} {q9 : Addr} (hp : Ψ S E) (hO : Ok G S H) (hS : va_S (Ab G.b) s.heap H locs) (h1 : H[q9]? = some ce) (h2 : ce.vm = .none) (h3 : s.vm.findClass E = some ce.cls) (hc : cells ≤ mc) (hs : slots ≤ ms) :
    vx_W p l e R s m args below meth c H locs cells slots (vx_MQ below (gQ G P) (gX G Ψ) args s mc ms (Ab G.b)) (F0 m pc ls rest) q9 :=
  vx_out (fun x hx => (hx9 x hx).elim) hlocks h1 h2 h3 (fun t ht _ => ⟨S, hp, by unfold Wp; rw [ht]; exact hO, hS.F ht⟩) hS.2.2 hc hs
/-- the receiver's class -/
theorem pw_recv (C0 : Mx p s m c cc nL args own G) (hO : Ok G S H) {b k : Nat} {r : vw_C} (hb9 : isA S b k) (hk : k < 20) (hc : vwCl[cix k]? = some r) : ∃ cell : Cell, H[b]? = some cell ∧ cell.vm.isStatics = false ∧ s.vm.findClass r.1 = some cell.cls := by
  obtain ⟨q0, hq0⟩ := ok_get (G := G) hb9.1
  rw [wF_obj hb9.2 hk] at hq0
  exact va_recv C0.2.2.2.2.2.1 hO.1 hc hq0
theorem c_V {idx maxL n b k : Nat} {y : MethodName} {bytes : ByteArray} {ret : Option FieldType} {rm : Room} {As : List Value} {r : vw_C} (C0 : Mx p s m c cc nL args own G) (hO : Ok G S H) (hS : va_S (Ab G.b) s.heap H locs)
    (hM : gM l y bytes maxL ret rm (.ref b :: As) G S P) (hb9 : isA S b k) (hk : k < 20) (hc : vwCl[cix k]? = some r) (hr : r.1 = y.cls) (t1 : Cond.methodLink own idx y ∈ lw_good) (t2 : Cond.instanceMethod y ∈ lw_good) (t3 : Cond.selects y.cls y y ∈ lw_good) (t4 : Cond.initialized y.cls ∈ lw_good) (t5 : Cond.code y bytes maxL ret ∈ lw_good) (hd : nmOk y n) (hn : As.length = n) (hR : rmOk rm R maxL cells slots)
    (hsize : ls.size = nL) (hst : st0 = As.reverse ++ .ref b :: rest) (hW : (rest.map fun v => v.category).sum ≤ 8) (hdg : decode cc pc = .ok (.invokevirtual idx, 3))
    (kk : ∀ (v : Option Value) (S1 : Hp) (H1 : Heap) (locs1 : List Loc), P v S1 → Ok G S1 H1 → va_S (Ab G.b) s.heap H1 locs1 → W p l e R s m args below meth c H1 locs1 (cells + rm.cells) (slots + rm.slots) Q (F0 m (pc + 3) ls (v.toList ++ rest))) : W p l e R s m args below meth c H locs cells slots Q (F0 m pc ls st0) := by
  obtain ⟨hx, hb, hml, hown, hts, hK, -, -⟩ := id C0
  have hrc := pw_recv C0 hO hb9 hk hc
  rw [hr] at hrc
  exact c_fin (va_runV (As := As) (rest := rest) ⟨hx, hb, hml, hown, hts⟩ hM (cwV n hts (gd_V t1 t2 t3 t4 t5) rfl rfl rfl ⟨rfl, hd⟩ hR.1) ⟨wd_blind _ _ _, hrc, fun U hU hW9 => ⟨rfl, wd_call C0 hO hS hU hW9⟩⟩ rfl hn hsize hst (lv_room hW) hdg hR.2) hS kk
theorem c_S {idx maxL n : Nat} {y : MethodName} {bytes : ByteArray} {ret : Option FieldType} {rm : Room} {As : List Value} (C0 : Mx p s m c cc nL args own G) (hO : Ok G S H) (hS : va_S (Ab G.b) s.heap H locs)
    (hM : gM l y bytes maxL ret rm As G S P) (t1 : Cond.methodLink own idx y ∈ lw_good) (t2 : Cond.static y ∈ lw_good) (t4 : Cond.initialized y.cls ∈ lw_good) (t5 : Cond.code y bytes maxL ret ∈ lw_good) (hd : nmOk y n) (hn : As.length = n) (hR : rmOk rm R maxL cells slots)
    (hsize : ls.size = nL) (hst : st0 = As.reverse ++ rest) (hW : (rest.map fun v => v.category).sum ≤ 8) (hdg : decode cc pc = .ok (.invokestatic idx, 3))
    (kk : ∀ (v : Option Value) (S1 : Hp) (H1 : Heap) (locs1 : List Loc), P v S1 → Ok G S1 H1 → va_S (Ab G.b) s.heap H1 locs1 → W p l e R s m args below meth c H1 locs1 (cells + rm.cells) (slots + rm.slots) Q (F0 m (pc + 3) ls (v.toList ++ rest))) : W p l e R s m args below meth c H locs cells slots Q (F0 m pc ls st0) := by
  obtain ⟨hx, hb, hml, hown, hts, hK, -, -⟩ := id C0
  exact c_fin (va_runS (As := As) (rest := rest) ⟨hx, hb, hml, hown, hts⟩ hM (va_cwS n hts (gd_S t1 t2 t4 t5) rfl rfl rfl hd hR.1) ⟨wd_blind _ _ _, fun U hU hW9 => ⟨rfl, wd_call C0 hO hS hU hW9⟩⟩ rfl hn hsize hst (lv_room hW) hdg hR.2) hS kk
theorem c_I {idx maxL n b : Nat} {y : MethodName} {bytes : ByteArray} {rm : Room} {As : List Value} (C0 : Mx p s m c cc nL args own G) (hO : Ok G S H) (hS : va_S (Ab G.b) s.heap H locs)
    (hM : gM l y bytes maxL none rm (.ref b :: As) G S P) (t1 : Cond.methodLink own idx y ∈ lw_good) (t2 : Cond.instanceMethod y ∈ lw_good) (t4 : Cond.initialized y.cls ∈ lw_good) (t5 : Cond.code y bytes maxL none ∈ lw_good) (hy : y.name = "<init>") (hd : nmOk y n) (hn : As.length = n) (hR : rmOk rm R maxL cells slots)
    (hsize : ls.size = nL) (hst : st0 = As.reverse ++ .ref b :: rest) (hW : (rest.map fun v => v.category).sum ≤ 8) (hdg : decode cc pc = .ok (.invokespecial idx, 3))
    (kk : ∀ (v : Option Value) (S1 : Hp) (H1 : Heap) (locs1 : List Loc), P v S1 → Ok G S1 H1 → va_S (Ab G.b) s.heap H1 locs1 → W p l e R s m args below meth c H1 locs1 (cells + rm.cells) (slots + rm.slots) Q (F0 m (pc + 3) ls (v.toList ++ rest))) : W p l e R s m args below meth c H locs cells slots Q (F0 m pc ls st0) := by
  obtain ⟨hx, hb, hml, hown, hts, hK, -, -⟩ := id C0
  exact c_fin (va_runI (As := As) (rest := rest) ⟨hx, hb, hml, hown, hts⟩ hM (cwI n hts (gd_C t5) rfl rfl rfl (hts _ t4) (hts _ t1) (hts _ t2) hy hd hR.1) ⟨wd_blind _ _ _, fun U hU hW9 => ⟨rfl, wd_call C0 hO hS hU hW9⟩⟩ rfl hn hsize hst (lv_room hW) hdg hR.2) hS kk
theorem x_V {idx maxL n b k : Nat} {y : MethodName} {bytes : ByteArray} {ret : Option FieldType} {rm : Room} {As : List Value} {r : vw_C} (C0 : Mx p s m c cc nL args own G) (hlocks : meth.locks = false) (hx9 : ∀ x ∈ c.exceptionTable.toList, False) (hO : Ok G S H) (hS : va_S (Ab G.b) s.heap H locs)
    (hM : gT l y bytes maxL ret rm (.ref b :: As) G S P Ψ) (hb9 : isA S b k) (hk : k < 20) (hc : vwCl[cix k]? = some r) (hr : r.1 = y.cls) (t1 : Cond.methodLink own idx y ∈ lw_good) (t2 : Cond.instanceMethod y ∈ lw_good) (t3 : Cond.selects y.cls y y ∈ lw_good) (t4 : Cond.initialized y.cls ∈ lw_good) (t5 : Cond.code y bytes maxL ret ∈ lw_good) (hd : nmOk y n) (hn : As.length = n) (hR : rmOk rm R maxL cells slots)
    (hsize : ls.size = nL) (hst : st0 = As.reverse ++ .ref b :: rest) (hW : (rest.map fun v => v.category).sum ≤ 8) (hdg : decode cc pc = .ok (.invokevirtual idx, 3)) (hmc : cells + rm.cells ≤ mc) (hms : slots + rm.slots ≤ ms)
    (kk : ∀ (v : Option Value) (S1 : Hp) (H1 : Heap) (locs1 : List Loc), P v S1 → Ok G S1 H1 → va_S (Ab G.b) s.heap H1 locs1 → W p l e R s m args below meth c H1 locs1 (cells + rm.cells) (slots + rm.slots) (vx_MQ below (gQ G P2) (gX G Ψ) args s mc ms (Ab G.b)) (F0 m (pc + 3) ls (v.toList ++ rest))) : W p l e R s m args below meth c H locs cells slots (vx_MQ below (gQ G P2) (gX G Ψ) args s mc ms (Ab G.b)) (F0 m pc ls st0) := by
  obtain ⟨hx, hb, hml, hown, hts, hK, -, -⟩ := id C0
  have hrc := pw_recv C0 hO hb9 hk hc
  rw [hr] at hrc
  exact x_fin (vx_runV (As := As) (rest := rest) ⟨hx, hb, hml, hown, hts⟩ hM (cwV n hts (gd_V t1 t2 t3 t4 t5) rfl rfl rfl ⟨rfl, hd⟩ hR.1) ⟨wd_blind _ _ _, hrc, fun U hU hW9 => ⟨rfl, wd_call C0 hO hS hU hW9⟩⟩ rfl hn hsize hst (lv_room hW) hdg hR.2) hS
    (fun E ce q9 S1 H1 locs1 hp hO1 hS1 h1 h2 h3 => x_out (st0 := []) (Or.inr trivial) hlocks hx9 hp hO1 hS1 h1 h2 h3 hmc hms) kk
theorem x_S {idx maxL n : Nat} {y : MethodName} {bytes : ByteArray} {ret : Option FieldType} {rm : Room} {As : List Value} (C0 : Mx p s m c cc nL args own G) (hlocks : meth.locks = false) (hx9 : ∀ x ∈ c.exceptionTable.toList, False) (hO : Ok G S H) (hS : va_S (Ab G.b) s.heap H locs)
    (hM : gT l y bytes maxL ret rm As G S P Ψ) (t1 : Cond.methodLink own idx y ∈ lw_good) (t2 : Cond.static y ∈ lw_good) (t4 : Cond.initialized y.cls ∈ lw_good) (t5 : Cond.code y bytes maxL ret ∈ lw_good) (hd : nmOk y n) (hn : As.length = n) (hR : rmOk rm R maxL cells slots)
    (hsize : ls.size = nL) (hst : st0 = As.reverse ++ rest) (hW : (rest.map fun v => v.category).sum ≤ 8) (hdg : decode cc pc = .ok (.invokestatic idx, 3)) (hmc : cells + rm.cells ≤ mc) (hms : slots + rm.slots ≤ ms)
    (kk : ∀ (v : Option Value) (S1 : Hp) (H1 : Heap) (locs1 : List Loc), P v S1 → Ok G S1 H1 → va_S (Ab G.b) s.heap H1 locs1 → W p l e R s m args below meth c H1 locs1 (cells + rm.cells) (slots + rm.slots) (vx_MQ below (gQ G P2) (gX G Ψ) args s mc ms (Ab G.b)) (F0 m (pc + 3) ls (v.toList ++ rest))) : W p l e R s m args below meth c H locs cells slots (vx_MQ below (gQ G P2) (gX G Ψ) args s mc ms (Ab G.b)) (F0 m pc ls st0) := by
  obtain ⟨hx, hb, hml, hown, hts, hK, -, -⟩ := id C0
  exact x_fin (vx_runS (As := As) (rest := rest) ⟨hx, hb, hml, hown, hts⟩ hM (va_cwS n hts (gd_S t1 t2 t4 t5) rfl rfl rfl hd hR.1) ⟨wd_blind _ _ _, fun U hU hW9 => ⟨rfl, wd_call C0 hO hS hU hW9⟩⟩ rfl hn hsize hst (lv_room hW) hdg hR.2) hS
    (fun E ce q9 S1 H1 locs1 hp hO1 hS1 h1 h2 h3 => x_out (st0 := []) (Or.inr trivial) hlocks hx9 hp hO1 hS1 h1 h2 h3 hmc hms) kk
/-- ends -/
theorem e_I {Φ : Hp → Int32 → Prop} {v : Int32} (C0 : Mx p s m c cc nL args own G) (Y : My meth (some .int)) (hO : Ok G S H) (hS : va_S (Ab G.b) s.heap H locs) (hh : Φ S v) (hc : cells ≤ mc) (hs : slots ≤ ms) (hdg : decode cc pc = .ok (.ireturn, 1)) : W p l e R s m args below meth c H locs cells slots (MQ below (gQ G (PI Φ)) args s mc ms (Ab G.b)) (F0 m pc ls [.int v]) := by
  refine W.widen hc hs ?_
  exact W.iret C0.1 C0.2.1 Y.1 (fun t ht hW => ⟨⟨some (.int v), S, rfl, ⟨v, rfl, hh⟩, by unfold Wp; rw [ht]; exact hO⟩, hS.F ht⟩) hS.2.2 hdg Y.2
theorem e_Z {Φ : Hp → Int32 → Prop} {v : Int32} {ty : FieldType} (C0 : Mx p s m c cc nL args own G) (Y : My meth (some ty)) (hO : Ok G S H) (hS : va_S (Ab G.b) s.heap H locs) (hn : narrow ty (.int v) = .int v) (hh : Φ S v) (hc : cells ≤ mc) (hs : slots ≤ ms) (hdg : decode cc pc = .ok (.ireturn, 1)) : W p l e R s m args below meth c H locs cells slots (MQ below (gQ G (PI Φ)) args s mc ms (Ab G.b)) (F0 m pc ls [.int v]) := by
  refine W.widen hc hs ?_
  exact W.zret C0.1 C0.2.1 Y.1 hn (fun t ht hW => ⟨⟨some (.int v), S, rfl, ⟨v, rfl, hh⟩, by unfold Wp; rw [ht]; exact hO⟩, hS.F ht⟩) hS.2.2 hdg Y.2
theorem e_J {Φ : Hp → Int64 → Prop} {v : Int64} (C0 : Mx p s m c cc nL args own G) (Y : My meth (some .long)) (hO : Ok G S H) (hS : va_S (Ab G.b) s.heap H locs) (hh : Φ S v) (hc : cells ≤ mc) (hs : slots ≤ ms) (hdg : decode cc pc = .ok (.lreturn, 1)) : W p l e R s m args below meth c H locs cells slots (MQ below (gQ G (PJ Φ)) args s mc ms (Ab G.b)) (F0 m pc ls [.long v]) := by
  refine W.widen hc hs ?_
  exact W.lret C0.1 C0.2.1 Y.1 (fun t ht hW => ⟨⟨some (.long v), S, rfl, ⟨v, rfl, hh⟩, by unfold Wp; rw [ht]; exact hO⟩, hS.F ht⟩) hS.2.2 hdg Y.2
theorem e_V {Φ : Hp → Prop} (C0 : Mx p s m c cc nL args own G) (Y : My meth none) (hO : Ok G S H) (hS : va_S (Ab G.b) s.heap H locs) (hh : Φ S) (hc : cells ≤ mc) (hs : slots ≤ ms) (hdg : decode cc pc = .ok (.return_, 1)) : W p l e R s m args below meth c H locs cells slots (MQ below (gQ G (PV Φ)) args s mc ms (Ab G.b)) (F0 m pc ls []) := by
  refine W.widen hc hs ?_
  exact W.vret C0.1 C0.2.1 Y.1 (fun t ht hW => ⟨⟨none, S, rfl, ⟨rfl, hh⟩, by unfold Wp; rw [ht]; exact hO⟩, hS.F ht⟩) hS.2.2 hdg Y.2
theorem e_R {Φ : Hp → Option Nat → Prop} {v : Option Nat} {rt : FieldType} (C0 : Mx p s m c cc nL args own G) (Y : My meth (some rt)) (hrt : (∃ n, rt = .object n) ∨ ∃ t, rt = .array t) (hO : Ok G S H) (hS : va_S (Ab G.b) s.heap H locs) (hh : Φ S v) (hc : cells ≤ mc) (hs : slots ≤ ms) (hdg : decode cc pc = .ok (.areturn, 1)) : W p l e R s m args below meth c H locs cells slots (MQ below (gQ G (PR Φ)) args s mc ms (Ab G.b)) (F0 m pc ls [va_rf v]) := by
  refine W.widen hc hs ?_
  exact W.aret C0.1 C0.2.1 Y.1 hrt (va_rf_or v) (fun t ht hW => ⟨⟨some (va_rf v), S, rfl, ⟨v, rfl, hh⟩, by unfold Wp; rw [ht]; exact hO⟩, hS.F ht⟩) hS.2.2 hdg Y.2
/-- a throw's words -/
theorem at_of {own cls : String} {ic : Nat} {names : List String} (hts : ∀ w ∈ lw_good, w.before args s = true) (hE : ∀ w ∈ lw_oth, va_Nw w s) (h : (vx_atS own ic cls names).all (fun w => (goodWord w && decide (w ∈ lw_tbl)) || decide (w ∈ lw_oth)) = true) : ∀ w ∈ vx_atS own ic cls names, w.before args s = true := by
  intro w hw
  have h1 := List.all_eq_true.mp h w hw
  simp only [Bool.or_eq_true, Bool.and_eq_true, decide_eq_true_eq] at h1
  rcases h1 with ⟨h1, h2⟩ | h1
  · exact hts w (List.mem_filter.mpr ⟨h2, h1⟩)
  · exact va_Nw.use (oth_onTables h1) (hE w h1)
theorem t_S {cls text : String} {names : List String} {ik is ic : Nat} (C0 : Mx p s m c cc nL args own G) (hl : l.stackTraces = false) (hlocks : meth.locks = false) (hx9 : ∀ x ∈ c.exceptionTable.toList, False) (hO : Ok G S H) (hS : va_S (Ab G.b) s.heap H locs)
    (hcls : Bundle.fit cls = true) (hnames : ∀ n ∈ names, Bundle.fit n = true) (tk : Cond.classLink own ik cls ∈ lw_good) (ti : Cond.initialized cls ∈ lw_good) (hstr : (own, is, text) ∈ strs) (hat : (vx_atS own ic cls names).all (fun w => (goodWord w && decide (w ∈ lw_tbl)) || decide (w ∈ lw_oth)) = true) (hgood : ∀ w ∈ Cond.classLink own ik cls :: Cond.initialized cls :: vx_atS own ic cls names, vx_ot w = true)
    (hsize : ls.size = nL) (hΨ : Ψ S cls) (d0 : decode cc pc = .ok (.new ik, 3)) (d3 : decode cc (pc + 3) = .ok (.dup, 1)) (d4 : decode cc (pc + 4) = .ok (.ldc is, 2)) (d6 : decode cc (pc + 6) = .ok (.invokespecial ic, 3)) (d9 : decode cc (pc + 9) = .ok (.athrow, 1))
    (hRframes : names.length + 3 < R.frames) (hRlocals : (rest.map fun v => v.category).sum + (13 * (names.length + 1) + 43) ≤ R.locals) (hRcells : cells + 1 ≤ R.cells) (hRslots : slots + 6 ≤ R.slots) (hc : cells + 1 ≤ mc) (hs : slots + 6 ≤ ms) :
    W p l e R s m args below meth c H locs cells slots (vx_MQ below (gQ G P) (gX G Ψ) args s mc ms (Ab G.b)) (F0 m pc ls rest) := by
  obtain ⟨hx, hb, hml, hown, hts, hK, hE, -⟩ := id C0
  obtain ⟨sa, hsa⟩ := hE.2.2.2.2.1 _ hstr
  refine vx_throwS hx hb hl hown hcls hnames (hts _ tk) (hts _ ti) hsa (at_of hts hE.2.2.2.2.2.2.2.2.1 hat) hgood hE.2.2.1 hE.2.2.2.1 hS (hsize.trans hml.symm) d0 d3 d4 d6 d9 (fun x hx => (hx9 x hx).elim) hRframes hRlocals hRcells hRslots hlocks (fun t hvm hz hk => ?_) hS.2.2 hc hs
  refine ⟨S, hΨ, ⟨hO.1.kept (fun k q hq => hk q.1 ((hO.1 k q hq).lt)), hO.2⟩, Nat.le_trans hS.1 hz, fun q h1 h2 => ?_⟩
  rw [hk q (Nat.lt_of_lt_of_le h1 hS.1)]
  exact hS.2.1 q h1 h2
theorem t_W {cls text : String} {names : List String} {ik is ic : Nat} (C0 : Mx p s m c cc nL args own G) (hl : l.stackTraces = false) (hlocks : meth.locks = false) (hx9 : ∀ x ∈ c.exceptionTable.toList, False) (hO : Ok G S H) (hS : va_S (Ab G.b) s.heap H locs)
    (hcls : Bundle.fit cls = true) (hnames : ∀ n ∈ names, Bundle.fit n = true) (tk : Cond.classLink own ik cls ∈ lw_good) (ti : Cond.initialized cls ∈ lw_good) (hstr : (own, is, text) ∈ strs) (hat : (vx_atS own ic cls names).all (fun w => (goodWord w && decide (w ∈ lw_tbl)) || decide (w ∈ lw_oth)) = true) (hgood : ∀ w ∈ Cond.classLink own ik cls :: Cond.initialized cls :: vx_atS own ic cls names, vx_ot w = true)
    (hsize : ls.size = nL) (hΨ : Ψ S cls) (d0 : decode cc pc = .ok (.new ik, 3)) (d3 : decode cc (pc + 3) = .ok (.dup, 1)) (d4 : decode cc (pc + 4) = .ok (.ldc_w is, 3)) (d7 : decode cc (pc + 7) = .ok (.invokespecial ic, 3)) (d10 : decode cc (pc + 10) = .ok (.athrow, 1))
    (hRframes : names.length + 3 < R.frames) (hRlocals : (rest.map fun v => v.category).sum + (13 * (names.length + 1) + 43) ≤ R.locals) (hRcells : cells + 1 ≤ R.cells) (hRslots : slots + 6 ≤ R.slots) (hc : cells + 1 ≤ mc) (hs : slots + 6 ≤ ms) :
    W p l e R s m args below meth c H locs cells slots (vx_MQ below (gQ G P) (gX G Ψ) args s mc ms (Ab G.b)) (F0 m pc ls rest) := by
  obtain ⟨hx, hb, hml, hown, hts, hK, hE, -⟩ := id C0
  obtain ⟨sa, hsa⟩ := hE.2.2.2.2.1 _ hstr
  refine vx_throwSW hx hb hl hown hcls hnames (hts _ tk) (hts _ ti) hsa (at_of hts hE.2.2.2.2.2.2.2.2.1 hat) hgood hE.2.2.1 hE.2.2.2.1 hS (hsize.trans hml.symm) d0 d3 d4 d7 d10 (fun x hx => (hx9 x hx).elim) hRframes hRlocals hRcells hRslots hlocks (fun t hvm hz hk => ?_) hS.2.2 hc hs
  refine ⟨S, hΨ, ⟨hO.1.kept (fun k q hq => hk q.1 ((hO.1 k q hq).lt)), hO.2⟩, Nat.le_trans hS.1 hz, fun q h1 h2 => ?_⟩
  rw [hk q (Nat.lt_of_lt_of_le h1 hS.1)]
  exact hS.2.1 q h1 h2
/-- new things -/
def dflt (ty : Nat) : Value := if ty = 0 then .int 0 else if ty = 1 then .long 0 else .null
theorem new_vals {q k n : Nat} : fvals (S.new q k n) k q = (shp k).map dflt := by
  unfold fvals
  apply List.ext_getElem?
  intro i
  rw [List.getElem?_mapIdx, List.getElem?_map]
  cases (shp k)[i]? with
  | none => rfl
  | some ty =>
    refine congrArg some ?_
    unfold fval dflt
    dsimp only
    by_cases h0 : ty = 0
    · rw [if_pos h0, if_pos h0]
      exact congrArg Value.int (if_pos rfl)
    · rw [if_neg h0, if_neg h0]
      by_cases h1 : ty = 1
      · rw [if_pos h1, if_pos h1]
        exact congrArg Value.long (if_pos rfl)
      · rw [if_neg h1, if_neg h1]
        exact congrArg va_rf (if_pos rfl)
theorem new_K {q k n : Nat} : (S.new q k n).K q = k := va_up_self _ _ _
theorem new_isA {q k n : Nat} : isA (S.new q k n) q k := ⟨List.mem_append_right _ List.mem_cons_self, new_K⟩
theorem n_obj {k N idx : Nat} {C : String} {T : u_T} (C0 : Mx p s m c cc nL args own G) (hO : Ok G S H) (hS : va_S (Ab G.b) s.heap H locs) (hk : k < 20) (hc : vwCl[cix k]? = some (C, T, N)) (hin : ∀ w ∈ u_ws C T N, w ∈ lw_good) (tyf : Nat → FieldType) (hty : ∀ k, k < N → parseFieldDescriptor (T k).2.2.1 = some (tyf k)) (t1 : Cond.classLink own idx C ∈ lw_good) (t2 : Cond.instantiable C N ∈ lw_good) (t3 : Cond.initialized C ∈ lw_good)
    (hfs : ∀ j, j < N → defaultValue (tyf j) = vp_V ((shp k).map dflt) j) (hcells : cells + 1 ≤ R.cells) (hslots : slots + N ≤ R.slots) (hdg : decode cc pc = .ok (.new idx, 3))
    (kk : ∀ (q : Nat) (H1 : Heap), q ∉ S.L → Ok G (S.new q k 0) H1 → va_S (Ab G.b) s.heap H1 locs → W p l e R s m args below meth c H1 locs (cells + 1) (slots + N) Q (F0 m (pc + 3) ls (.ref q :: rest))) : W p l e R s m args below meth c H locs cells slots Q (F0 m pc ls rest) := by
  obtain ⟨hx, hb, hml, hown, hts, hK, hE, hbl⟩ := id C0
  refine va_new hx hb hts hin tyf hty hown (hts _ t1) (hts _ t2) (hts _ t3) hK hO.1 hO.2.1 hS (fun q hq => Nat.le_trans hbl hq) hc hfs hcells hslots hdg (fun q H1 hP hD hS1 => ?_)
  obtain ⟨h1, h2⟩ := ok_push (S := S) (k := k) (n := 0) hO.2.2 ⟨hP, hD⟩ (by rw [wF_obj new_K hk, new_vals])
  exact kk q H1 h1 h2 hS1
theorem n_arr {k t : Nat} {at9 : ArrayType} {ty : FieldType} {n : Int32} (C0 : Mx p s m c cc nL args own G) (hO : Ok G S H) (hS : va_S (Ab G.b) s.heap H locs) (hk : ¬ k < 20) (ht : (vTy G.cy)[t]? = some (G.cy k, ty)) (hty : newarray.typeOf at9 = ty) (ta : Cond.arrayClass (newarray.typeOf at9) ∈ lw_good) (hno : ∀ C, ty ≠ .object C)
    (ha : ∀ (q : Nat) (cA : ClassId), vp_cell cA (n.toNatClampNeg, aval (S.new q k n.toNatClampNeg) k q) = arrV cA n.toNatClampNeg (fun _ => defaultValue ty)) (hn : ¬ n < 0) (hbytes : n.toNatClampNeg * componentBytes ty ≤ 536870912) (hcells : cells + 1 ≤ R.cells) (hslots : slots + n.toNatClampNeg ≤ R.slots) (hdg : decode cc pc = .ok (.newarray at9, 2))
    (kk : ∀ (q : Nat) (H1 : Heap), q ∉ S.L → Ok G (S.new q k n.toNatClampNeg) H1 → va_S (Ab G.b) s.heap H1 locs → W p l e R s m args below meth c H1 locs (cells + 1) (slots + n.toNatClampNeg) Q (F0 m (pc + 2) ls (.ref q :: rest))) : W p l e R s m args below meth c H locs cells slots Q (F0 m pc ls (.int n :: rest)) := by
  obtain ⟨hx, hb, hml, hown, hts, hK, hE, hbl⟩ := id C0
  have hval : ∀ q q', aval (S.new q k n.toNatClampNeg) k q = aval (S.new q' k n.toNatClampNeg) k q' := by
    intro q q'
    unfold aval
    have e1 : (S.new q k n.toNatClampNeg).AI q = fun _ => 0 := va_up_self _ _ _
    have e2 : (S.new q' k n.toNatClampNeg).AI q' = fun _ => 0 := va_up_self _ _ _
    have e3 : (S.new q k n.toNatClampNeg).AJ q = fun _ => 0 := va_up_self _ _ _
    have e4 : (S.new q' k n.toNatClampNeg).AJ q' = fun _ => 0 := va_up_self _ _ _
    have e5 : (S.new q k n.toNatClampNeg).AD q = fun _ => 0 := va_up_self _ _ _
    have e6 : (S.new q' k n.toNatClampNeg).AD q' = fun _ => 0 := va_up_self _ _ _
    have e7 : (S.new q k n.toNatClampNeg).AR q = fun _ => none := va_up_self _ _ _
    have e8 : (S.new q' k n.toNatClampNeg).AR q' = fun _ => none := va_up_self _ _ _
    rw [e1, e2, e3, e4, e5, e6, e7, e8]
  refine va_newa hx hb (hts _ ta) hty hK hO.1 hO.2.1 hS (fun q hq => Nat.le_trans hbl hq) (a0 := (n.toNatClampNeg, aval (S.new 0 k n.toNatClampNeg) k 0)) (fun cA => ha 0 cA) hn rfl hbytes hcells hslots hdg (fun q cA H1 hK1 hP hD hS1 => ?_)
  have hcA : cA = G.cy k := by
    have h1 := (hK.2 t _ ht).2
    have h2 := (hK1.2 (vTy G.cy).length (cA, ty) (by rw [List.getElem?_append_right (Nat.le_refl _), Nat.sub_self]; rfl)).2
    cases ty with
    | object C => exact absurd rfl (hno C)
    | _ => exact Option.some.inj (h2.symm.trans h1)
  subst hcA
  obtain ⟨h1, h2⟩ := ok_push (S := S) (k := k) (n := n.toNatClampNeg) hO.2.2 ⟨hP, hD⟩ (by rw [wF_arr new_K hk, hval q 0]; exact congrArg (fun z => Sum.inl (G.cy k, (z, aval (S.new 0 k n.toNatClampNeg) k 0))) (va_up_self _ _ _))
  exact kk q H1 h1 h2 hS1
end PC
