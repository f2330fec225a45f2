/-- the String constants of the class, and what may be cast to what -/
def strs : List (String × Nat × String) := [("Linkwright", 79, "there are 14 shafts"), ("Linkwright", 366, "no such shaft"), ("Linkwright", 93, "no such kind, or a number is out of range"), ("Linkwright", 98, "both shafts are the same"), ("Linkwright", 148, "the shaft is driven"), ("Linkwright", 391, "a shaft would be round, or too far behind"), ("Linkwright", 393, "there are 16 links"), ("Linkwright", 380, "a number is out of range"), ("Linkwright", 118, "two shafts are the same"), ("Linkwright", 369, "no such link"), ("Linkwright", 195, "no link drives the shaft"), ("Linkwright", 343, "there are no shafts")]
def lw_cs2 : List (String × String) := [("[J", "java/lang/Cloneable"), ("java/lang/IllegalStateException", "java/lang/IllegalStateException"), ("java/lang/ArrayIndexOutOfBoundsException", "java/lang/ArrayIndexOutOfBoundsException"), ("java/lang/IndexOutOfBoundsException", "java/lang/IndexOutOfBoundsException"), ("java/lang/IllegalArgumentException", "java/lang/IllegalArgumentException"), ("java/lang/UnsupportedOperationException", "java/lang/UnsupportedOperationException"), ("java/util/NoSuchElementException", "java/util/NoSuchElementException"), ("java/lang/ArithmeticException", "java/lang/ArithmeticException"), ("java/lang/ArrayIndexOutOfBoundsException", "java/lang/IndexOutOfBoundsException"), ("Linkwright", "java/lang/Object"), ("java/util/ArrayList", "java/lang/Object"), ("Linkwright$FractionRow", "java/lang/Object"), ("Linkwright$Motion", "java/lang/Object"), ("java/lang/IllegalStateException", "java/lang/Object"), ("java/lang/ArrayIndexOutOfBoundsException", "java/lang/Object"), ("java/lang/IndexOutOfBoundsException", "java/lang/Object"), ("java/lang/IllegalArgumentException", "java/lang/Object"), ("java/lang/UnsupportedOperationException", "java/lang/Object"), ("Linkwright$Link", "java/lang/Object"), ("java/util/NoSuchElementException", "java/lang/Object"), ("Linkwright$Cam", "java/lang/Object"), ("Linkwright$Fraction", "java/lang/Object"), ("Linkwright$Drum", "java/lang/Object"), ("java/lang/ArithmeticException", "java/lang/Object"), ("java/lang/Throwable", "java/lang/Object"), ("java/lang/String", "java/lang/Object"), ("[I", "java/lang/Object"), ("[Z", "java/lang/Object"), ("[J", "java/lang/Object"), ("[B", "java/lang/Object"), ("[Ljava/lang/Object;", "java/lang/Object"), ("[C", "java/lang/Object")]
def lw_nc : List (String × String) := [("Linkwright", "java/lang/IllegalStateException"), ("java/util/ArrayList", "java/lang/IllegalStateException"), ("Linkwright$FractionRow", "java/lang/IllegalStateException"), ("Linkwright$Motion", "java/lang/IllegalStateException"), ("java/lang/ArrayIndexOutOfBoundsException", "java/lang/IllegalStateException"), ("java/lang/IndexOutOfBoundsException", "java/lang/IllegalStateException"), ("java/lang/IllegalArgumentException", "java/lang/IllegalStateException"), ("java/lang/UnsupportedOperationException", "java/lang/IllegalStateException"), ("Linkwright$Link", "java/lang/IllegalStateException"), ("java/util/NoSuchElementException", "java/lang/IllegalStateException"), ("Linkwright$Fraction", "java/lang/IllegalStateException"), ("java/lang/ArithmeticException", "java/lang/IllegalStateException"), ("Linkwright", "java/lang/IndexOutOfBoundsException"), ("java/util/ArrayList", "java/lang/IndexOutOfBoundsException"), ("Linkwright$FractionRow", "java/lang/IndexOutOfBoundsException"), ("Linkwright$Motion", "java/lang/IndexOutOfBoundsException"), ("java/lang/IllegalStateException", "java/lang/IndexOutOfBoundsException"), ("java/lang/IllegalArgumentException", "java/lang/IndexOutOfBoundsException"), ("java/lang/UnsupportedOperationException", "java/lang/IndexOutOfBoundsException"), ("Linkwright$Link", "java/lang/IndexOutOfBoundsException"), ("java/util/NoSuchElementException", "java/lang/IndexOutOfBoundsException"), ("Linkwright$Fraction", "java/lang/IndexOutOfBoundsException"), ("java/lang/ArithmeticException", "java/lang/IndexOutOfBoundsException"), ("Linkwright", "java/lang/IllegalArgumentException"), ("java/util/ArrayList", "java/lang/IllegalArgumentException"), ("Linkwright$FractionRow", "java/lang/IllegalArgumentException"), ("Linkwright$Motion", "java/lang/IllegalArgumentException"), ("java/lang/IllegalStateException", "java/lang/IllegalArgumentException"), ("java/lang/ArrayIndexOutOfBoundsException", "java/lang/IllegalArgumentException"), ("java/lang/IndexOutOfBoundsException", "java/lang/IllegalArgumentException"), ("java/lang/UnsupportedOperationException", "java/lang/IllegalArgumentException"), ("Linkwright$Link", "java/lang/IllegalArgumentException"), ("java/util/NoSuchElementException", "java/lang/IllegalArgumentException"), ("Linkwright$Fraction", "java/lang/IllegalArgumentException"), ("java/lang/ArithmeticException", "java/lang/IllegalArgumentException"), ("Linkwright", "java/lang/UnsupportedOperationException"), ("java/util/ArrayList", "java/lang/UnsupportedOperationException"), ("Linkwright$FractionRow", "java/lang/UnsupportedOperationException"), ("Linkwright$Motion", "java/lang/UnsupportedOperationException"), ("java/lang/IllegalStateException", "java/lang/UnsupportedOperationException"), ("java/lang/ArrayIndexOutOfBoundsException", "java/lang/UnsupportedOperationException"), ("java/lang/IndexOutOfBoundsException", "java/lang/UnsupportedOperationException"), ("java/lang/IllegalArgumentException", "java/lang/UnsupportedOperationException"), ("Linkwright$Link", "java/lang/UnsupportedOperationException"), ("java/util/NoSuchElementException", "java/lang/UnsupportedOperationException"), ("Linkwright$Fraction", "java/lang/UnsupportedOperationException"), ("java/lang/ArithmeticException", "java/lang/UnsupportedOperationException"), ("Linkwright", "java/util/NoSuchElementException"), ("java/util/ArrayList", "java/util/NoSuchElementException"), ("Linkwright$FractionRow", "java/util/NoSuchElementException"), ("Linkwright$Motion", "java/util/NoSuchElementException"), ("java/lang/IllegalStateException", "java/util/NoSuchElementException"), ("java/lang/ArrayIndexOutOfBoundsException", "java/util/NoSuchElementException"), ("java/lang/IndexOutOfBoundsException", "java/util/NoSuchElementException"), ("java/lang/IllegalArgumentException", "java/util/NoSuchElementException"), ("java/lang/UnsupportedOperationException", "java/util/NoSuchElementException"), ("Linkwright$Link", "java/util/NoSuchElementException"), ("Linkwright$Fraction", "java/util/NoSuchElementException"), ("java/lang/ArithmeticException", "java/util/NoSuchElementException")]
def lw_ds : List MethodName := [⟨"java/lang/RuntimeException", "<init>", "()V"⟩, ⟨"java/lang/RuntimeException", "<init>", "(Ljava/lang/String;)V"⟩, ⟨"java/lang/Exception", "<init>", "()V"⟩, ⟨"java/lang/Exception", "<init>", "(Ljava/lang/String;)V"⟩, ⟨"java/lang/Throwable", "<init>", "()V"⟩, ⟨"java/lang/Throwable", "<init>", "(Ljava/lang/String;)V"⟩, ⟨"java/lang/IndexOutOfBoundsException", "<init>", "()V"⟩, ⟨"java/lang/IndexOutOfBoundsException", "<init>", "(Ljava/lang/String;)V"⟩, ⟨"java/lang/Object", "getClass", "()Ljava/lang/Class;"⟩]
def lw_oth : List Cond := lw_cs2.map (fun q => .castable q.1 q.2) ++ lw_ds.map (fun y => .declares y)
theorem oth_onTables {w : Cond} (h : w ∈ lw_oth) : w.onTables = true := by
  rcases List.mem_append.mp h with h | h <;> obtain ⟨q, -, rfl⟩ := List.mem_map.mp h <;> rfl
theorem oth_move {s U : State} {w : Cond} (hW : s.WarmedH U.vm) (h : w ∈ lw_oth) (hz : va_Nw w s) : va_Nw w U := by
  rcases List.mem_append.mp h with h | h
  · obtain ⟨q, -, rfl⟩ := List.mem_map.mp h
    exact va_Nw.warmC hW hz
  · obtain ⟨q, -, rfl⟩ := List.mem_map.mp h
    exact va_Nw.warmD hW hz
/-! WHAT HOLDS OF A METHOD'S START, AND THE POOL'S ROWS -/
/-- an array class over arrays: its component is the class of that name -/
def AOA2 (t : FieldType) (U : State) : Prop := ∃ (comp c : ClassId) (k : Class), U.vm.findClass (FieldType.array t).toString = some comp ∧ U.vm.classes[c]? = some k ∧ k.kind = .array comp (.array t) ∧ U.vm.findClass ("[" ++ (FieldType.array t).toString) = some c
theorem AOA2.moved {t : FieldType} {u U : State} (hvm : u.vm.Alike U.vm) (h : AOA2 t u) : AOA2 t U := by
  obtain ⟨comp, c, k, h1, h3, h4, h5⟩ := h
  obtain ⟨k', hk', he⟩ := hvm.2.2 _ _ h3
  exact ⟨comp, c, k', by rw [hvm.findClass]; exact h1, hk', by rw [he]; exact h4, by rw [hvm.findClass]; exact h5⟩
def gridTys : List FieldType := []
/-- what never changes: ArrayList's empty array, Throwable's two statics, the String constants, the Class object of Object[] -/
def Ev (G : Gw) (U : State) (H : Heap) : Prop :=
  va_Z "java/util/ArrayList" "DEFAULTCAPACITY_EMPTY_ELEMENTDATA" "[Ljava/lang/Object;" (.ref G.t0) (Ab G.b) U H ∧ va_T (.object "java/lang/Object") G.t0 0 (fun _ => .null) (Ab G.b) U H ∧
  vx_Zq Bundle.tN "UNASSIGNED_STACK" Bundle.steD (Ab G.b) U H ∧ vx_Zq Bundle.tN "SUPPRESSED_SENTINEL" Bundle.listD (Ab G.b) U H ∧
  (∀ x ∈ strs, ∃ a, vk_R x.1 x.2.1 x.2.2 a U) ∧ va_Mi "[Ljava/lang/Object;" G.mi U ∧ va_Dc U ∧ va_AO "java/lang/Object" U ∧ (∀ w ∈ lw_oth, va_Nw w U) ∧ va_Nw (.methodLinkNest RX7 53 yX6_init RX7) U ∧ (∀ q ∈ lw_nc, va_Nc q.1 q.2 U) ∧ (∀ t ∈ gridTys, AOA2 t U) ∧ va_X G.xb G.xl G.xs U H ∧ G.xb < H.size ∧ ¬ Ab G.b G.xb
theorem ev_move {G : Gw} {s U : State} {H : Heap} {locs : List Loc} (hE : Ev G s s.heap) (hS : va_S (Ab G.b) s.heap H locs) (hU : U.heap = H) (hW : s.WarmedH U.vm) : Ev G U U.heap := by
  obtain ⟨h1, h2, h3, h4, h5, h6, h7, h8, h9, h10, h11, h12, h13, h14, h15⟩ := hE
  have hk : ∀ a : Nat, a < s.heap.size → ¬ Ab G.b a → U.heap[a]? = s.heap[a]? := fun a ha hn => by rw [hU]; exact hS.2.1 a ha hn
  refine ⟨(h1.moved hW.alike).kept hk, (h2.moved hW.alike).kept hk, (h3.moved hW.alike).kept hk, (h4.moved hW.alike).kept hk, fun x hx => ?_, h6.moved hW.alike, h7.moved hW.alike, h8.moved hW.alike, fun w hw => oth_move hW hw (h9 w hw), va_Nw.warmM hW h10, fun q hq => (h11 q hq).moved hW.alike, fun t ht => (h12 t ht).moved hW.alike, (h13.moved hW.alike).kept (hk _ h14 h15), by rw [hU]; exact Nat.lt_of_lt_of_le h14 hS.1, h15⟩
  · obtain ⟨a, ha⟩ := h5 x hx
    exact ⟨a, ha.warm hW⟩
/-- the world at a method's start, and at its end -/
def Wd (G : Gw) (S : Hp) (U : State) : Prop := G.b ≤ U.heap.size ∧ Ok G S U.heap ∧ va_K G.D vwCl (vTy G.cy) U ∧ Ev G U U.heap
def Wp (G : Gw) (S : Hp) (t : State) : Prop := Ok G S t.heap
def gQ (G : Gw) (P : Option Value → Hp → Prop) : Array Value → State → Outcome → State → Prop := fun _ st oc t => (∃ (v : Option Value) (u : Hp), oc = .returned v ∧ P v u ∧ Wp G u t) ∧ va_F (Ab G.b) st t
def gX (G : Gw) (Ψ : Hp → String → Prop) : String → State → State → Prop := fun E st t => ∃ u : Hp, Ψ u E ∧ Wp G u t ∧ va_F (Ab G.b) st t
def PI (Φ : Hp → Int32 → Prop) : Option Value → Hp → Prop := fun v S => ∃ r : Int32, v = some (.int r) ∧ Φ S r
def PJ (Φ : Hp → Int64 → Prop) : Option Value → Hp → Prop := fun v S => ∃ r : Int64, v = some (.long r) ∧ Φ S r
def PF (Φ : Hp → UInt32 → Prop) : Option Value → Hp → Prop := fun v S => ∃ r : UInt32, v = some (.float r) ∧ Φ S r
def PD (Φ : Hp → UInt64 → Prop) : Option Value → Hp → Prop := fun v S => ∃ r : UInt64, v = some (.double r) ∧ Φ S r
def PV (Φ : Hp → Prop) : Option Value → Hp → Prop := fun v S => v = none ∧ Φ S
def PR (Φ : Hp → Option Nat → Prop) : Option Value → Hp → Prop := fun v S => ∃ r : Option Nat, v = some (va_rf r) ∧ Φ S r
/-- a method that returns; one that returns or throws -/
def gM (l : Launch) (y : MethodName) (cc : ByteArray) (maxL : Nat) (ret : Option FieldType) (rm : Room) (As : List Value) (G : Gw) (S : Hp) (P : Option Value → Hp → Prop) : Prop :=
  Met l y (Cond.code y cc maxL ret :: lw_good) rm (va_Pc As (Wd G S)) (gQ G P) rm.cells rm.slots (Ab G.b)
def gT (l : Launch) (y : MethodName) (cc : ByteArray) (maxL : Nat) (ret : Option FieldType) (rm : Room) (As : List Value) (G : Gw) (S : Hp) (P : Option Value → Hp → Prop) (Ψ : Hp → String → Prop) : Prop :=
  vx_Met l y (Cond.code y cc maxL ret :: lw_good) rm (va_Pc As (Wd G S)) (gQ G P) (gX G Ψ) rm.cells rm.slots (Ab G.b)
/-- what a walk has at hand all along -/
def Mx (p : Program) (s : State) (m : MethodId) (c : Code) (cc : ByteArray) (nL : Nat) (args : Array Value) (own : String) (G : Gw) : Prop :=
  p.tables.exec = Jvm.exec ∧ c.code = cc ∧ c.maxLocals = nL ∧ s.vm.findClass own = some m.cls ∧ (∀ w ∈ lw_good, w.before args s = true) ∧ va_K G.D vwCl (vTy G.cy) s ∧ Ev G s s.heap ∧ G.b ≤ s.heap.size
def My (meth : Method) (ret : Option FieldType) : Prop := meth.sig.returnType = ret ∧ meth.locks = false
theorem wd_blind (As : List Value) (G : Gw) (S : Hp) : FrameBlind (va_Pc As (Wd G S)) := by
  intro a U g mk h
  obtain ⟨h1, h2, h3, h4, h5⟩ := h
  refine ⟨h1, h2, h3, va_K.moved (u := U) (U := U.calling g mk a) (Vm.Alike.refl U.vm) h4, ?_⟩
  exact ev_move (locs := []) h5 va_S.rf rfl (State.WarmedH.refl U)

section PW
variable {p : Program} {l : Launch} {e : Env} {R : Room} {s : State} {m : MethodId} {args : Array Value} {below : List Frame} {meth : Method} {c : Code} {H : Heap} {locs : List Loc} {cells slots : Nat} {Q : State → Prop}
variable {cc : ByteArray} {pc : Nat} {ls : Array Slot} {rest st0 : List Value} {G : Gw} {S : Hp} {nL : Nat} {own : String}
/-- a method's context out of its body -/
theorem mx_of {y : MethodName} {maxL : Nat} {ret : Option FieldType} {rm : Room} {s₁ : State} (B : BodyLoose p l y (headSpec (Cond.code y cc maxL ret :: lw_good) rm) cc maxL ret e s m args below meth c s₁) (hml : c.maxLocals = maxL) (hW : Wd G S s) : Mx p s m c cc maxL args y.cls G ∧ My meth ret ∧ Ok G S s.heap := by
  have hts := atoms_spec (ws := Cond.code y cc maxL ret :: lw_good) B.pre
  exact ⟨⟨B.exec, B.bytes, hml, findClass_of_methodNamed B.named, fun w h => hts w (List.mem_cons_of_mem _ h), hW.2.2.1, hW.2.2.2, hW.1⟩, ⟨B.returns, B.notSynchronized⟩, hW.2.1⟩
/-- the world that a callee gets -/
theorem wd_call (C0 : Mx p s m c cc nL args own G) (hO : Ok G S H) (hS : va_S (Ab G.b) s.heap H locs) {U : State} (hU : U.heap = H) (hW : s.WarmedH U.vm) : Wd G S U := by
  obtain ⟨-, -, -, -, -, hK, hE, hb⟩ := C0
  exact ⟨by rw [hU]; exact Nat.le_trans hb hS.1, by rw [hU]; exact hO, va_K.moved hW.alike hK, ev_move hE hS hU hW⟩
/-- a field is read -/
theorem r_get {a k i ty N index : Nat} {C ref : String} {T : u_T} {v : Value} (C0 : Mx p s m c cc nL args own G) (hO : Ok G S H) (ha : isA S a k) (hk : k < 20) (hc : vwCl[cix k]? = some (C, T, N)) (hsh : (shp k)[i]? = some ty) (hi : i < N) (hin : ∀ w ∈ u_ws C T N, w ∈ lw_good) (hlink : Cond.fieldLink own index ref (T i).2.1 (T i).2.2.1 ∈ lw_good) (hsame : ∀ x, s.fieldFound? (T i).1 (T i).2.1 (T i).2.2.1 = some x → s.fieldFound? ref (T i).2.1 (T i).2.2.1 = some x) (hv : fval S k a i ty = v) (hdg : decode cc pc = .ok (.getfield index, 3))
    (kk : W p l e R s m args below meth c H locs cells slots Q (F0 m (pc + 3) ls (v :: rest))) : W p l e R s m args below meth c H locs cells slots Q (F0 m pc ls (.ref a :: rest)) := by
  obtain ⟨hx, hb, -, hown, hts, hK, -, -⟩ := C0
  obtain ⟨q0, hq0⟩ := ok_get (G := G) ha.1
  rw [wF_obj ha.2 hk] at hq0
  exact va_get hx hb hts hin hown hK hO.1 q0 hq0 hc i hi (hts _ hlink) hsame (by rw [fvals_get hsh, hv]) hdg kk
theorem r_put {S' : Hp} {a k i ty0 N index : Nat} {C ref : String} {T : u_T} {v : Value} {ty : FieldType} (C0 : Mx p s m c cc nL args own G) (hO : Ok G S H) (hS : va_S (Ab G.b) s.heap H locs) (ha : isA S a k) (hk : k < 20) (hc : vwCl[cix k]? = some (C, T, N)) (hsh : (shp k)[i]? = some ty0) (hi : i < N) (hin : ∀ w ∈ u_ws C T N, w ∈ lw_good) (tyf : Nat → FieldType) (hty : ∀ k, k < N → parseFieldDescriptor (T k).2.2.1 = some (tyf k)) (hnm : ∀ a, a < N → ∀ b, b < N → a ≠ b → (T a).2.1 ≠ (T b).2.1)
    (hlink : Cond.fieldLink own index ref (T i).2.1 (T i).2.2.1 ∈ lw_good) (hsame : ∀ x, s.fieldFound? (T i).1 (T i).2.1 (T i).2.2.1 = some x → s.fieldFound? ref (T i).2.1 (T i).2.2.1 = some x) (hfin : (T i).2.2.2 = false) (hd : parseFieldDescriptor (T i).2.2.1 = some ty) (hn : narrow ty v = v) (hfit : fits ty v = true) (hT : S'.T = S.T) (hL : S'.L = S.L) (hf : ∀ b, va_up (wF G.cy S) a (.inr (cix k, (fvals S k a).set i v)) b = wF G.cy S' b) (hdg : decode cc pc = .ok (.putfield index, 3))
    (kk : ∀ (H1 : Heap) (locs1 : List Loc), Ok G S' H1 → va_S (Ab G.b) s.heap H1 locs1 → W p l e R s m args below meth c H1 locs1 cells slots Q (F0 m (pc + 3) ls rest)) : W p l e R s m args below meth c H locs cells slots Q (F0 m pc ls (v :: .ref a :: rest)) := by
  obtain ⟨hx, hb, -, hown, hts, hK, -, -⟩ := C0
  obtain ⟨q0, hq0⟩ := ok_get (G := G) ha.1
  have hq1 := hq0
  rw [wF_obj ha.2 hk] at hq1
  have hlen : i < (fvals S k a).length := by
    rw [fvals_len]
    exact (List.getElem?_eq_some_iff.mp hsh).1
  exact va_put hx hb hts hin tyf hty hnm hown hK hO.1 hO.2.1 hS q0 hq1 hc i hi (hts _ hlink) hsame hfin hd hn hfit hlen hdg (fun H1 locs1 hP hD hS1 => kk H1 locs1 (ok_set (S := S) (S' := S') (by rw [hT]; exact hO.2.2) hL ⟨hP, hD⟩ hO.2.1 ha.1 hq0 hf) hS1)
theorem r_putF {S' : Hp} {a k i ty0 N index : Nat} {C ref : String} {T : u_T} {v : Value} {ty : FieldType} (C0 : Mx p s m c cc nL args own G) (hO : Ok G S H) (hS : va_S (Ab G.b) s.heap H locs) (ha : isA S a k) (hk : k < 20) (hc : vwCl[cix k]? = some (C, T, N)) (hsh : (shp k)[i]? = some ty0) (hi : i < N) (hin : ∀ w ∈ u_ws C T N, w ∈ lw_good) (tyf : Nat → FieldType) (hty : ∀ k, k < N → parseFieldDescriptor (T k).2.2.1 = some (tyf k)) (hnm : ∀ a, a < N → ∀ b, b < N → a ≠ b → (T a).2.1 ≠ (T b).2.1)
    (hlink : Cond.fieldLink own index ref (T i).2.1 (T i).2.2.1 ∈ lw_good) (hsame : ∀ x, s.fieldFound? (T i).1 (T i).2.1 (T i).2.2.1 = some x → s.fieldFound? ref (T i).2.1 (T i).2.2.1 = some x) (hfin : (T i).2.2.2 = true) (hname : meth.name = "<init>") (hdecl : (T i).1 = own) (hd : parseFieldDescriptor (T i).2.2.1 = some ty) (hn : narrow ty v = v) (hfit : fits ty v = true) (hT : S'.T = S.T) (hL : S'.L = S.L) (hf : ∀ b, va_up (wF G.cy S) a (.inr (cix k, (fvals S k a).set i v)) b = wF G.cy S' b) (hdg : decode cc pc = .ok (.putfield index, 3))
    (kk : ∀ (H1 : Heap) (locs1 : List Loc), Ok G S' H1 → va_S (Ab G.b) s.heap H1 locs1 → W p l e R s m args below meth c H1 locs1 cells slots Q (F0 m (pc + 3) ls rest)) : W p l e R s m args below meth c H locs cells slots Q (F0 m pc ls (v :: .ref a :: rest)) := by
  obtain ⟨hx, hb, -, hown, hts, hK, -, -⟩ := C0
  obtain ⟨q0, hq0⟩ := ok_get (G := G) ha.1
  have hq1 := hq0
  rw [wF_obj ha.2 hk] at hq1
  have hlen : i < (fvals S k a).length := by
    rw [fvals_len]
    exact (List.getElem?_eq_some_iff.mp hsh).1
  exact va_putF hx hb hts hin tyf hty hnm hown hK hO.1 hO.2.1 hS q0 hq1 hc i hi (hts _ hlink) hsame hfin hname hdecl hd hn hfit hlen hdg (fun H1 locs1 hP hD hS1 => kk H1 locs1 (ok_set (S := S) (S' := S') (by rw [hT]; exact hO.2.2) hL ⟨hP, hD⟩ hO.2.1 ha.1 hq0 hf) hS1)
/-- an array's length -/
theorem r_len {a k : Nat} (C0 : Mx p s m c cc nL args own G) (hO : Ok G S H) (ha : isA S a k) (hk : ¬ k < 20) {t : Nat} {ty : FieldType} (ht : (vTy G.cy)[t]? = some (G.cy k, ty)) (hdg : decode cc pc = .ok (.arraylength, 1))
    (kk : W p l e R s m args below meth c H locs cells slots Q (F0 m (pc + 1) ls (.int (nI (S.N a)) :: rest))) : W p l e R s m args below meth c H locs cells slots Q (F0 m pc ls (.ref a :: rest)) := by
  obtain ⟨hx, hb, -, hown, hts, hK, -, -⟩ := C0
  obtain ⟨q0, hq0⟩ := ok_get (G := G) ha.1
  rw [wF_arr ha.2 hk] at hq0
  exact va_alen hx hb hK hO.1 q0 t hq0 ht rfl hdg kk
theorem r_cald {a : Nat} {i : Int32} (C0 : Mx p s m c cc nL args own G) (hO : Ok G S H) (ha : isA S a 20) (hin : vp_in i (S.N a)) (hdg : decode cc pc = .ok (.caload, 1))
    (kk : W p l e R s m args below meth c H locs cells slots Q (F0 m (pc + 1) ls (.int (S.AI a i.toNatClampNeg) :: rest))) : W p l e R s m args below meth c H locs cells slots Q (F0 m pc ls (.int i :: .ref a :: rest)) := by
  obtain ⟨hx, hb, -, hown, hts, hK, -, -⟩ := C0
  obtain ⟨q0, hq0⟩ := ok_get (G := G) ha.1
  rw [wF_arr ha.2 (by decide)] at hq0
  exact va_cald hx hb hK hO.1 q0 0 hq0 rfl hin hdg kk
theorem r_iald {a : Nat} {i : Int32} (C0 : Mx p s m c cc nL args own G) (hO : Ok G S H) (ha : isA S a 21) (hin : vp_in i (S.N a)) (hdg : decode cc pc = .ok (.iaload, 1))
    (kk : W p l e R s m args below meth c H locs cells slots Q (F0 m (pc + 1) ls (.int (S.AI a i.toNatClampNeg) :: rest))) : W p l e R s m args below meth c H locs cells slots Q (F0 m pc ls (.int i :: .ref a :: rest)) := by
  obtain ⟨hx, hb, -, hown, hts, hK, -, -⟩ := C0
  obtain ⟨q0, hq0⟩ := ok_get (G := G) ha.1
  rw [wF_arr ha.2 (by decide)] at hq0
  exact va_iald hx hb hK hO.1 q0 1 hq0 rfl hin hdg kk
theorem r_lald {a : Nat} {i : Int32} (C0 : Mx p s m c cc nL args own G) (hO : Ok G S H) (ha : isA S a 22) (hin : vp_in i (S.N a)) (hdg : decode cc pc = .ok (.laload, 1))
    (kk : W p l e R s m args below meth c H locs cells slots Q (F0 m (pc + 1) ls (.long (S.AJ a i.toNatClampNeg) :: rest))) : W p l e R s m args below meth c H locs cells slots Q (F0 m pc ls (.int i :: .ref a :: rest)) := by
  obtain ⟨hx, hb, -, hown, hts, hK, -, -⟩ := C0
  obtain ⟨q0, hq0⟩ := ok_get (G := G) ha.1
  rw [wF_arr ha.2 (by decide)] at hq0
  exact va_lald hx hb hK hO.1 q0 2 hq0 rfl hin hdg kk
theorem r_zald {a : Nat} {i : Int32} (C0 : Mx p s m c cc nL args own G) (hO : Ok G S H) (ha : isA S a 23) (hin : vp_in i (S.N a)) (hdg : decode cc pc = .ok (.baload, 1))
    (kk : W p l e R s m args below meth c H locs cells slots Q (F0 m (pc + 1) ls (.int (S.AI a i.toNatClampNeg) :: rest))) : W p l e R s m args below meth c H locs cells slots Q (F0 m pc ls (.int i :: .ref a :: rest)) := by
  obtain ⟨hx, hb, -, hown, hts, hK, -, -⟩ := C0
  obtain ⟨q0, hq0⟩ := ok_get (G := G) ha.1
  rw [wF_arr ha.2 (by decide)] at hq0
  exact va_zald hx hb hK hO.1 q0 3 hq0 rfl hin hdg kk
theorem r_oald {a : Nat} {i : Int32} (C0 : Mx p s m c cc nL args own G) (hO : Ok G S H) (ha : isA S a 25) (hin : vp_in i (S.N a)) (hdg : decode cc pc = .ok (.aaload, 1))
    (kk : W p l e R s m args below meth c H locs cells slots Q (F0 m (pc + 1) ls (va_rf (S.AR a i.toNatClampNeg) :: rest))) : W p l e R s m args below meth c H locs cells slots Q (F0 m pc ls (.int i :: .ref a :: rest)) := by
  obtain ⟨hx, hb, -, hown, hts, hK, -, -⟩ := C0
  obtain ⟨q0, hq0⟩ := ok_get (G := G) ha.1
  rw [wF_arr ha.2 (by decide)] at hq0
  exact va_aldq hx hb hK hO.1 q0 5 hq0 rfl hin hdg kk
theorem nb_nar {x : Int32} (h : nb x) : vp_nar .boolean x = x := by
  unfold vp_nar
  rw [h.1]
theorem nc_nar {x : Int32} (h : nc x) : vp_nar .char x = x := by
  unfold vp_nar
  rw [h.1]
theorem r_iast {a : Nat} {i : Int32} {x : Int32} (C0 : Mx p s m c cc nL args own G) (hO : Ok G S H) (hS : va_S (Ab G.b) s.heap H locs) (ha : isA S a 21) (hin : vp_in i (S.N a)) (hdg : decode cc pc = .ok (.iastore, 1))
    (kk : ∀ (H1 : Heap) (locs1 : List Loc), Ok G (S.setAI a i.toNatClampNeg x) H1 → va_S (Ab G.b) s.heap H1 locs1 → W p l e R s m args below meth c H1 locs1 cells slots Q (F0 m (pc + 1) ls rest)) : W p l e R s m args below meth c H locs cells slots Q (F0 m pc ls (.int x :: .int i :: .ref a :: rest)) := by
  obtain ⟨hx, hb, -, hown, hts, hK, -, -⟩ := C0
  obtain ⟨q0, hq0⟩ := ok_get (G := G) ha.1
  have hq1 := hq0
  rw [wF_arr ha.2 (by decide)] at hq1
  refine va_iast hx hb hK hO.1 hO.2.1 hS q0 1 hq1 rfl hin hdg (fun H1 locs1 hP hD hS1 => kk H1 locs1 (ok_set (S := S) (S' := S.setAI a i.toNatClampNeg x) hO.2.2 rfl ⟨hP, hD⟩ hO.2.1 ha.1 hq0 ?_) hS1)
  refine wF_arrPut ha.2 (by decide) rfl rfl ?_ (fun b hb => ?_)
  · 
    show Sum.inl (up2 S.AI a i.toNatClampNeg x a) = _
    rw [up2_upd]
  · refine wF_ne rfl (fun _ => rfl) (fun _ => rfl) (fun _ => rfl) rfl ?_ ?_ ?_ ?_ <;> first | rfl | exact up2_row hb
theorem r_cast {a : Nat} {i : Int32} {x : Int32} (C0 : Mx p s m c cc nL args own G) (hO : Ok G S H) (hS : va_S (Ab G.b) s.heap H locs) (ha : isA S a 20) (hin : vp_in i (S.N a)) (hx9 : nc x) (hdg : decode cc pc = .ok (.castore, 1))
    (kk : ∀ (H1 : Heap) (locs1 : List Loc), Ok G (S.setAI a i.toNatClampNeg x) H1 → va_S (Ab G.b) s.heap H1 locs1 → W p l e R s m args below meth c H1 locs1 cells slots Q (F0 m (pc + 1) ls rest)) : W p l e R s m args below meth c H locs cells slots Q (F0 m pc ls (.int x :: .int i :: .ref a :: rest)) := by
  obtain ⟨hx, hb, -, hown, hts, hK, -, -⟩ := C0
  obtain ⟨q0, hq0⟩ := ok_get (G := G) ha.1
  have hq1 := hq0
  rw [wF_arr ha.2 (by decide)] at hq1
  refine va_cast hx hb hK hO.1 hO.2.1 hS q0 0 hq1 rfl hin hdg (fun H1 locs1 hP hD hS1 => kk H1 locs1 (ok_set (S := S) (S' := S.setAI a i.toNatClampNeg x) hO.2.2 rfl ⟨hP, hD⟩ hO.2.1 ha.1 hq0 ?_) hS1)
  refine wF_arrPut ha.2 (by decide) rfl rfl ?_ (fun b hb => ?_)
  · rw [nc_nar hx9]
    show Sum.inl (up2 S.AI a i.toNatClampNeg x a) = _
    rw [up2_upd]
  · refine wF_ne rfl (fun _ => rfl) (fun _ => rfl) (fun _ => rfl) rfl ?_ ?_ ?_ ?_ <;> first | rfl | exact up2_row hb
theorem r_zast {a : Nat} {i : Int32} {x : Int32} (C0 : Mx p s m c cc nL args own G) (hO : Ok G S H) (hS : va_S (Ab G.b) s.heap H locs) (ha : isA S a 23) (hin : vp_in i (S.N a)) (hx9 : nb x) (hdg : decode cc pc = .ok (.bastore, 1))
    (kk : ∀ (H1 : Heap) (locs1 : List Loc), Ok G (S.setAI a i.toNatClampNeg x) H1 → va_S (Ab G.b) s.heap H1 locs1 → W p l e R s m args below meth c H1 locs1 cells slots Q (F0 m (pc + 1) ls rest)) : W p l e R s m args below meth c H locs cells slots Q (F0 m pc ls (.int x :: .int i :: .ref a :: rest)) := by
  obtain ⟨hx, hb, -, hown, hts, hK, -, -⟩ := C0
  obtain ⟨q0, hq0⟩ := ok_get (G := G) ha.1
  have hq1 := hq0
  rw [wF_arr ha.2 (by decide)] at hq1
  refine va_zast hx hb hK hO.1 hO.2.1 hS q0 3 hq1 rfl hin hdg (fun H1 locs1 hP hD hS1 => kk H1 locs1 (ok_set (S := S) (S' := S.setAI a i.toNatClampNeg x) hO.2.2 rfl ⟨hP, hD⟩ hO.2.1 ha.1 hq0 ?_) hS1)
  refine wF_arrPut ha.2 (by decide) rfl rfl ?_ (fun b hb => ?_)
  · rw [nb_nar hx9]
    show Sum.inl (up2 S.AI a i.toNatClampNeg x a) = _
    rw [up2_upd]
  · refine wF_ne rfl (fun _ => rfl) (fun _ => rfl) (fun _ => rfl) rfl ?_ ?_ ?_ ?_ <;> first | rfl | exact up2_row hb
theorem r_last {a : Nat} {i : Int32} {x : Int64} (C0 : Mx p s m c cc nL args own G) (hO : Ok G S H) (hS : va_S (Ab G.b) s.heap H locs) (ha : isA S a 22) (hin : vp_in i (S.N a)) (hdg : decode cc pc = .ok (.lastore, 1))
    (kk : ∀ (H1 : Heap) (locs1 : List Loc), Ok G (S.setAJ a i.toNatClampNeg x) H1 → va_S (Ab G.b) s.heap H1 locs1 → W p l e R s m args below meth c H1 locs1 cells slots Q (F0 m (pc + 1) ls rest)) : W p l e R s m args below meth c H locs cells slots Q (F0 m pc ls (.long x :: .int i :: .ref a :: rest)) := by
  obtain ⟨hx, hb, -, hown, hts, hK, -, -⟩ := C0
  obtain ⟨q0, hq0⟩ := ok_get (G := G) ha.1
  have hq1 := hq0
  rw [wF_arr ha.2 (by decide)] at hq1
  refine va_last hx hb hK hO.1 hO.2.1 hS q0 2 hq1 rfl hin hdg (fun H1 locs1 hP hD hS1 => kk H1 locs1 (ok_set (S := S) (S' := S.setAJ a i.toNatClampNeg x) hO.2.2 rfl ⟨hP, hD⟩ hO.2.1 ha.1 hq0 ?_) hS1)
  refine wF_arrPut ha.2 (by decide) rfl rfl ?_ (fun b hb => ?_)
  · 
    show Sum.inr (Sum.inl (up2 S.AJ a i.toNatClampNeg x a)) = _
    rw [up2_updL]
  · refine wF_ne rfl (fun _ => rfl) (fun _ => rfl) (fun _ => rfl) rfl ?_ ?_ ?_ ?_ <;> first | rfl | exact up2_row hb
end PW
