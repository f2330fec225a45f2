/-! METHODS WITH A TABLE OF THEIR OWN: calls that may throw, their catching, contracts, calls -/
def gW (l : Launch) (y : MethodName) (cc : ByteArray) (maxL : Nat) (ret : Option FieldType) (hh : List (Nat × Nat × Nat × Nat)) (rm : Room) (As : List Value) (G : Gw) (S : Hp) (P : Option Value → Hp → Prop) : Prop :=
  Met l y (Cond.codeWith y cc maxL ret hh :: lw_good) rm (va_Pc As (Wd G S)) (gQ G P) rm.cells rm.slots (Ab G.b)
section PT9
variable {p : Program} {l : Launch} {e : Env} {R : Room} {s : State} {m : MethodId} {args : Array Value} {below : List Frame} {meth : Method} {c : Code} {H : Heap} {locs : List Loc} {cells slots : Nat} {Q : State → Prop}
variable {cc : ByteArray} {pc : Nat} {ls : Array Slot} {rest st0 : List Value} {G : Gw} {S : Hp} {nL : Nat} {own : String} {P : Option Value → Hp → Prop} {Ψ : Hp → String → Prop}
theorem mx_ofW {y : MethodName} {maxL : Nat} {ret : Option FieldType} {rm : Room} {s₁ : State} {hh : List (Nat × Nat × Nat × Nat)} (B : BodyLoose p l y (headSpec (Cond.codeWith y cc maxL ret hh :: lw_good) rm) cc maxL ret e s m args below meth c s₁) (hml : c.maxLocals = maxL) (hW : Wd G S s) : Mx p s m c cc maxL args y.cls G ∧ My meth ret ∧ Ok G S s.heap ∧ c.exceptionTable.toList = tableOf hh := by
  have hts := atoms_spec (ws := Cond.codeWith y cc maxL ret hh :: lw_good) B.pre
  exact ⟨⟨B.exec, B.bytes, hml, findClass_of_methodNamed B.named, fun w h => hts w (List.mem_cons_of_mem _ h), hW.2.2.1, hW.2.2.2, hW.1⟩, ⟨B.returns, B.notSynchronized⟩, hW.2.1, vx_table (x := y) B (hts _ List.mem_cons_self)⟩
theorem y_V {idx maxL n b k : Nat} {y : MethodName} {bytes : ByteArray} {ret : Option FieldType} {rm : Room} {As : List Value} {r : vw_C} (C0 : Mx p s m c cc nL args own G) (hO : Ok G S H) (hS : va_S (Ab G.b) s.heap H locs)
    (hM : gT l y bytes maxL ret rm (.ref b :: As) G S P Ψ) (hb9 : isA S b k) (hk : k < 20) (hc : vwCl[cix k]? = some r) (hr : r.1 = y.cls) (t1 : Cond.methodLink own idx y ∈ lw_good) (t2 : Cond.instanceMethod y ∈ lw_good) (t3 : Cond.selects y.cls y y ∈ lw_good) (t4 : Cond.initialized y.cls ∈ lw_good) (t5 : Cond.code y bytes maxL ret ∈ lw_good) (hd : nmOk y n) (hn : As.length = n) (hR : rmOk rm R maxL cells slots)
    (hsize : ls.size = nL) (hst : st0 = As.reverse ++ .ref b :: rest) (hW : (rest.map fun v => v.category).sum ≤ 8) (hdg : decode cc pc = .ok (.invokevirtual idx, 3))
    (kx : ∀ (E : String) (ce : Cell) (q9 : Addr) (S1 : Hp) (H1 : Heap) (locs1 : List Loc), Ψ S1 E → Ok G S1 H1 → va_S (Ab G.b) s.heap H1 locs1 → H1[q9]? = some ce → ce.vm = .none → s.vm.findClass E = some ce.cls → vx_W p l e R s m args below meth c H1 locs1 (cells + rm.cells) (slots + rm.slots) Q (F0 m pc ls rest) q9)
    (kk : ∀ (v : Option Value) (S1 : Hp) (H1 : Heap) (locs1 : List Loc), P v S1 → Ok G S1 H1 → va_S (Ab G.b) s.heap H1 locs1 → W p l e R s m args below meth c H1 locs1 (cells + rm.cells) (slots + rm.slots) Q (F0 m (pc + 3) ls (v.toList ++ rest))) : W p l e R s m args below meth c H locs cells slots Q (F0 m pc ls st0) := by
  obtain ⟨hx, hb, hml, hown, hts, hK, -, -⟩ := id C0
  have hrc := pw_recv C0 hO hb9 hk hc
  rw [hr] at hrc
  exact x_fin (vx_runV (As := As) (rest := rest) ⟨hx, hb, hml, hown, hts⟩ hM (cwV n hts (gd_V t1 t2 t3 t4 t5) rfl rfl rfl ⟨rfl, hd⟩ hR.1) ⟨wd_blind _ _ _, hrc, fun U hU hW9 => ⟨rfl, wd_call C0 hO hS hU hW9⟩⟩ rfl hn hsize hst (lv_room hW) hdg hR.2) hS kx kk
/-- entries that don't take it -/
def noTake (s : State) (args : Array Value) (own E : String) (pc : Nat) (z : ExceptionTableEntry) : Prop := covers z pc = false ∨ (z.catchType ≠ 0 ∧ ∃ nm : String, (Cond.classLink own z.catchType nm).before args s = true ∧ va_Nc E nm s)
theorem no_of {E nm : String} {z : ExceptionTableEntry} (C0 : Mx p s m c cc nL args own G) (h0 : z.catchType ≠ 0) (t : Cond.classLink own z.catchType nm ∈ lw_good) (hq : (E, nm) ∈ lw_nc) : noTake s args own E pc z := Or.inr ⟨h0, nm, C0.2.2.2.2.1 _ t, C0.2.2.2.2.2.2.1.2.2.2.2.2.2.2.2.2.2.1 (E, nm) hq⟩
theorem k_catch {E : String} {ce : Cell} {q : Addr} {hh : List (Nat × Nat × Nat × Nat)} (C0 : Mx p s m c cc nL args own G) (ht : c.exceptionTable.toList = tableOf hh) (pre : List ExceptionTableEntry) (x : ExceptionTableEntry) (suf : List ExceptionTableEntry) (hsplit : tableOf hh = pre ++ x :: suf)
    (hpass : ∀ z ∈ pre, noTake s args own E pc z) (hx : covers x pc = true) (h0 : x.catchType ≠ 0) (t : Cond.classLink own x.catchType E ∈ lw_good) (hcs : Cond.castable E E ∈ lw_oth) (hcell : H[q]? = some ce) (hv : ce.vm = .none) (hcl : s.vm.findClass E = some ce.cls)
    (kk : W p l e R s m args below meth c H locs cells slots Q (F0 m x.handlerPc ls [.ref q])) : vx_W p l e R s m args below meth c H locs cells slots Q (F0 m pc ls rest) q :=
  vx_catch C0.2.2.2.1 pre x suf (ht.trans hsplit) hpass hx h0 (C0.2.2.2.2.1 _ t) (va_Nw.use rfl (C0.2.2.2.2.2.2.1.2.2.2.2.2.2.2.2.1 _ hcs)) hcell hv hcl kk
/-- a call of a method with a table -/
theorem c_SW {idx maxL n : Nat} {y : MethodName} {bytes : ByteArray} {ret : Option FieldType} {hh : List (Nat × Nat × Nat × Nat)} {rm : Room} {As : List Value} (C0 : Mx p s m c cc nL args own G) (hO : Ok G S H) (hS : va_S (Ab G.b) s.heap H locs)
    (hM : gW l y bytes maxL ret hh rm As G S P) (t1 : Cond.methodLink own idx y ∈ lw_good) (t2 : Cond.static y ∈ lw_good) (t4 : Cond.initialized y.cls ∈ lw_good) (t5 : Cond.codeWith y bytes maxL ret hh ∈ lw_good) (hd : nmOk y n) (hn : As.length = n) (hR : rmOk rm R maxL cells slots)
    (hsize : ls.size = nL) (hst : st0 = As.reverse ++ rest) (hW : (rest.map fun v => v.category).sum ≤ 8) (hdg : decode cc pc = .ok (.invokestatic idx, 3))
    (kk : ∀ (v : Option Value) (S1 : Hp) (H1 : Heap) (locs1 : List Loc), P v S1 → Ok G S1 H1 → va_S (Ab G.b) s.heap H1 locs1 → W p l e R s m args below meth c H1 locs1 (cells + rm.cells) (slots + rm.slots) Q (F0 m (pc + 3) ls (v.toList ++ rest))) : W p l e R s m args below meth c H locs cells slots Q (F0 m pc ls st0) := by
  obtain ⟨hx, hb, hml, hown, hts, hK, -, -⟩ := id C0
  exact c_fin (vx_runSW (As := As) (rest := rest) ⟨hx, hb, hml, hown, hts⟩ hM (vx_cwSW n hts (gd_S t1 t2 t4 t5) rfl rfl rfl hd hR.1) ⟨wd_blind _ _ _, fun U hU hW9 => ⟨rfl, wd_call C0 hO hS hU hW9⟩⟩ rfl hn hsize hst (lv_room hW) hdg hR.2) hS kk
end PT9
