/-! LISTS, COPIES, CLASS OBJECTS, A NEST MATE'S CONSTRUCTOR -/
/-- an element of a list: a cam, a drum or a link -/
def isEl (S : Hp) (a : Nat) : Prop := isA S a 1 ∨ isA S a 2 ∨ isA S a 5
/-- the length of an array of objects, the empty one outside too -/
def lenT (S : Hp) (a : Nat) : Nat := if a = S.T 0 then 0 else S.N a
section PL
variable {p : Program} {l : Launch} {e : Env} {R : Room} {s : State} {m : MethodId} {args : Array Value} {below : List Frame} {meth : Method} {c : Code} {H : Heap} {locs : List Loc} {cells slots : Nat} {Q : State → Prop}
variable {cc : ByteArray} {pc : Nat} {ls : Array Slot} {rest st0 : List Value} {G : Gw} {S : Hp} {nL : Nat} {own : String} {P : Option Value → Hp → Prop}
theorem r_gets {idx : Nat} (C0 : Mx p s m c cc nL args own G) (hO : Ok G S H) (hS : va_S (Ab G.b) s.heap H locs) (t1 : Cond.fieldLink own idx "java/util/ArrayList" "DEFAULTCAPACITY_EMPTY_ELEMENTDATA" "[Ljava/lang/Object;" ∈ lw_good) (hdg : decode cc pc = .ok (.getstatic idx, 3))
    (kk : W p l e R s m args below meth c H locs cells slots Q (F0 m (pc + 3) ls (.ref (S.T 0) :: rest))) : W p l e R s m args below meth c H locs cells slots Q (F0 m pc ls rest) := by
  rw [hO.2.2.1] at kk
  exact va_gets C0.1 C0.2.1 C0.2.2.2.2.2.2.1.1 hS C0.2.2.2.1 (C0.2.2.2.2.1 _ t1) (fun _ h => h) hdg kk
theorem r_ldcM {idx : Nat} (C0 : Mx p s m c cc nL args own G) (hO : Ok G S H) (t1 : Cond.classLink own idx "[Ljava/lang/Object;" ∈ lw_good) (hdg : decode cc pc = .ok (.ldc idx, 2))
    (kk : W p l e R s m args below meth c H locs cells slots Q (F0 m (pc + 2) ls (.ref (S.T 1) :: rest))) : W p l e R s m args below meth c H locs cells slots Q (F0 m pc ls rest) := by
  rw [hO.2.2.2] at kk
  exact va_ldcM C0.1 C0.2.1 C0.2.2.2.1 (C0.2.2.2.2.1 _ t1) C0.2.2.2.2.2.2.1.2.2.2.2.2.1 hdg kk
theorem recv_arr (C0 : Mx p s m c cc nL args own G) (hO : Ok G S H) {a : Nat} (ha : isA S a 25) : ∃ cell : Cell, H[a]? = some cell ∧ cell.vm.isStatics = false ∧ s.vm.findClass "[Ljava/lang/Object;" = some cell.cls := by
  obtain ⟨q0, hq0⟩ := ok_get (G := G) ha.1
  rw [wF_arr ha.2 (by decide)] at hq0
  have h1 := hO.1 q0 _ hq0
  obtain ⟨kA, comp, -, -, -, h4⟩ := (C0.2.2.2.2.2.1.2 5 (G.cy 25, .object "java/lang/Object") rfl).2
  exact ⟨_, h1, rfl, h4⟩
theorem r_getC {a idx : Nat} (C0 : Mx p s m c cc nL args own G) (hO : Ok G S H) (ha : isA S a 25) (hsz : ls.size = nL) (t1 : Cond.methodLink own idx ⟨"java/lang/Object", "getClass", "()Ljava/lang/Class;"⟩ ∈ lw_good) (t3 : Cond.selects "[Ljava/lang/Object;" ⟨"java/lang/Object", "getClass", "()Ljava/lang/Class;"⟩ ⟨"java/lang/Object", "getClass", "()Ljava/lang/Class;"⟩ ∈ lw_good) (t4 : Cond.instanceMethod ⟨"java/lang/Object", "getClass", "()Ljava/lang/Class;"⟩ ∈ lw_good) (t5 : Cond.native ⟨"java/lang/Object", "getClass", "()Ljava/lang/Class;"⟩ ∈ lw_good)
    (hframes : 1 ≤ R.frames) (hlocals : (rest.map fun v => v.category).sum + 14 ≤ R.locals) (hdg : decode cc pc = .ok (.invokevirtual idx, 3))
    (kk : W p l e R s m args below meth c H locs cells slots Q (F0 m (pc + 3) ls (.ref (S.T 1) :: rest))) : W p l e R s m args below meth c H locs cells slots Q (F0 m pc ls (.ref a :: rest)) := by
  rw [hO.2.2.2] at kk
  exact va_getC C0.1 C0.2.1 (C0.2.2.1.trans hsz.symm) C0.2.2.2.1 (C0.2.2.2.2.1 _ t1) (va_Dc.use C0.2.2.2.2.2.2.1.2.2.2.2.2.2.1) (C0.2.2.2.2.1 _ t3) (C0.2.2.2.2.1 _ t4) (C0.2.2.2.2.1 _ t5) C0.2.2.2.2.2.2.1.2.2.2.2.2.1 (recv_arr C0 hO ha) hframes hlocals hdg kk
theorem r_lenT {a : Nat} (C0 : Mx p s m c cc nL args own G) (hO : Ok G S H) (hS : va_S (Ab G.b) s.heap H locs) (ha : a = S.T 0 ∨ isA S a 25) (hdg : decode cc pc = .ok (.arraylength, 1))
    (kk : W p l e R s m args below meth c H locs cells slots Q (F0 m (pc + 1) ls (.int (nI (lenT S a)) :: rest))) : W p l e R s m args below meth c H locs cells slots Q (F0 m pc ls (.ref a :: rest)) := by
  by_cases h0 : a = S.T 0
  · unfold lenT at kk
    rw [if_pos h0] at kk
    rw [h0, hO.2.2.1]
    exact va_tlen C0.1 C0.2.1 C0.2.2.2.2.2.2.1.2.1 hS rfl hdg kk
  · unfold lenT at kk
    rw [if_neg h0] at kk
    exact r_len (k := 25) (t := 5) C0 hO (ha.resolve_left h0) (by decide) rfl hdg kk
theorem el_cast (C0 : Mx p s m c cc nL args own G) {a : Nat} (h : isEl S a) : ∃ (k : Nat) (r : vw_C), isA S a k ∧ k < 20 ∧ vwCl[cix k]? = some r ∧ va_Nw (.castable r.1 "java/lang/Object") s := by
  have hE := C0.2.2.2.2.2.2.1.2.2.2.2.2.2.2.2.1
  rcases h with h | h | h
  · exact ⟨1, (RX1, TX1, 0), h, by decide, rfl, hE (.castable "Linkwright$Cam" "java/lang/Object") (by decide +kernel)⟩
  · exact ⟨2, (RX2, TX2, 0), h, by decide, rfl, hE (.castable "Linkwright$Drum" "java/lang/Object") (by decide +kernel)⟩
  · exact ⟨5, (RX5, TX5, 11), h, by decide, rfl, hE (.castable "Linkwright$Link" "java/lang/Object") (by decide +kernel)⟩
theorem aval25 {a : Nat} : aval S 25 a = .inr (.inr (.inr (.inr (S.AR a)))) := rfl
theorem r_oast {a v : Nat} {i : Int32} (C0 : Mx p s m c cc nL args own G) (hO : Ok G S H) (hS : va_S (Ab G.b) s.heap H locs) (ha : isA S a 25) (hin : vp_in i (S.N a)) (hv : isEl S v) (hdg : decode cc pc = .ok (.aastore, 1))
    (kk : ∀ (H1 : Heap) (locs1 : List Loc), Ok G (S.setAR a i.toNatClampNeg (some v)) H1 → va_S (Ab G.b) s.heap H1 locs1 → W p l e R s m args below meth c H1 locs1 cells slots Q (F0 m (pc + 1) ls rest)) : W p l e R s m args below meth c H locs cells slots Q (F0 m pc ls (.ref v :: .int i :: .ref a :: rest)) := by
  obtain ⟨k, r, hk, hlt, hr, hcs⟩ := el_cast C0 hv
  obtain ⟨q0, hq0⟩ := ok_get (G := G) ha.1
  have hq1 := hq0
  rw [wF_arr ha.2 (by decide)] at hq1
  obtain ⟨q2, hq2⟩ := ok_get (G := G) hk.1
  rw [wF_obj hk.2 hlt] at hq2
  refine va_astqO C0.1 C0.2.1 C0.2.2.2.2.2.1 hO.1 hO.2.1 hS q0 5 q2 (cix k) hq1 rfl hcs hq2 hr hin hdg (fun H1 locs1 hP hD hS1 => kk H1 locs1 (ok_set (S := S) (S' := S.setAR a i.toNatClampNeg (some v)) hO.2.2 rfl ⟨hP, hD⟩ hO.2.1 ha.1 hq0 ?_) hS1)
  refine wF_arrPut ha.2 (by decide) rfl rfl ?_ (fun b hb => ?_)
  · show Sum.inr (Sum.inr (Sum.inr (Sum.inr (up2 S.AR a i.toNatClampNeg (some v) a)))) = _
    rw [up2_up]
  · refine wF_ne rfl (fun _ => rfl) (fun _ => rfl) (fun _ => rfl) rfl ?_ ?_ ?_ ?_ <;> first | rfl | exact up2_row hb
theorem r_oastN {a : Nat} {i : Int32} (C0 : Mx p s m c cc nL args own G) (hO : Ok G S H) (hS : va_S (Ab G.b) s.heap H locs) (ha : isA S a 25) (hin : vp_in i (S.N a)) (hdg : decode cc pc = .ok (.aastore, 1))
    (kk : ∀ (H1 : Heap) (locs1 : List Loc), Ok G (S.setAR a i.toNatClampNeg none) H1 → va_S (Ab G.b) s.heap H1 locs1 → W p l e R s m args below meth c H1 locs1 cells slots Q (F0 m (pc + 1) ls rest)) : W p l e R s m args below meth c H locs cells slots Q (F0 m pc ls (.null :: .int i :: .ref a :: rest)) := by
  obtain ⟨q0, hq0⟩ := ok_get (G := G) ha.1
  have hq1 := hq0
  rw [wF_arr ha.2 (by decide)] at hq1
  refine va_astqN C0.1 C0.2.1 C0.2.2.2.2.2.1 hO.1 hO.2.1 hS q0 5 hq1 rfl hin hdg (fun H1 locs1 hP hD hS1 => kk H1 locs1 (ok_set (S := S) (S' := S.setAR a i.toNatClampNeg none) hO.2.2 rfl ⟨hP, hD⟩ hO.2.1 ha.1 hq0 ?_) hS1)
  refine wF_arrPut ha.2 (by decide) rfl rfl ?_ (fun b hb => ?_)
  · show Sum.inr (Sum.inr (Sum.inr (Sum.inr (up2 S.AR a i.toNatClampNeg none a)))) = _
    rw [up2_up]
  · refine wF_ne rfl (fun _ => rfl) (fun _ => rfl) (fun _ => rfl) rfl ?_ ?_ ?_ ?_ <;> first | rfl | exact up2_row hb
theorem n_25 {n : Int32} {idx : Nat} (C0 : Mx p s m c cc nL args own G) (hO : Ok G S H) (hS : va_S (Ab G.b) s.heap H locs) (t1 : Cond.classLink own idx "java/lang/Object" ∈ lw_good) (hn : ¬ n < 0) (hbytes : n.toNatClampNeg ≤ 64) (hcells : cells + 1 ≤ R.cells) (hslots : slots + n.toNatClampNeg ≤ R.slots) (hdg : decode cc pc = .ok (.anewarray idx, 3))
    (kk : ∀ (q : Nat) (H1 : Heap), q ∉ S.L → q ≠ S.T 0 → Ok G (S.new q 25 n.toNatClampNeg) H1 → va_S (Ab G.b) s.heap H1 locs → W p l e R s m args below meth c H1 locs (cells + 1) (slots + n.toNatClampNeg) Q (F0 m (pc + 3) ls (.ref q :: rest))) : W p l e R s m args below meth c H locs cells slots Q (F0 m pc ls (.int n :: rest)) := by
  refine va_newq C0.1 C0.2.1 C0.2.2.2.1 (C0.2.2.2.2.1 _ t1) C0.2.2.2.2.2.2.1.2.2.2.2.2.2.2.1 C0.2.2.2.2.2.1 hO.1 hO.2.1 hS (fun q hq => Nat.le_trans C0.2.2.2.2.2.2.2 hq) hn rfl (by omega) hcells hslots hdg (fun q cA H1 hK1 hP hD hS1 => ?_)
  have hcA : cA = G.cy 25 := by
    obtain ⟨_, _, -, -, -, h1⟩ := (C0.2.2.2.2.2.1.2 5 (G.cy 25, .object "java/lang/Object") rfl).2
    obtain ⟨_, _, -, -, -, h2⟩ := (hK1.2 (vTy G.cy).length (cA, .object "java/lang/Object") (by rw [List.getElem?_append_right (Nat.le_refl _), Nat.sub_self]; rfl)).2
    exact Option.some.inj (h2.symm.trans h1)
  subst hcA
  obtain ⟨h1, h2⟩ := ok_push (S := S) (k := 25) (n := n.toNatClampNeg) hO.2.2 ⟨hP, hD⟩ (by
    rw [wF_arr new_K (by decide), aval25]
    have e7 : (S.new q 25 n.toNatClampNeg).AR q = fun _ => none := va_up_self _ _ _
    have e8 : (S.new q 25 n.toNatClampNeg).N q = n.toNatClampNeg := va_up_self _ _ _
    rw [e7, e8])
  refine kk q H1 h1 (fun e9 => ?_) h2 hS1
  have hin : q ∈ (S.new q 25 n.toNatClampNeg).L := List.mem_append_right _ (List.mem_singleton.mpr rfl)
  obtain ⟨k9, hk9⟩ := ok_get (G := G) hin
  have h3 := h2.2.1.2 k9 _ hk9
  have h4 : G.b ≤ q := h3
  obtain ⟨-, -, -, -, -, -, -, h5⟩ := C0.2.2.2.2.2.2.1.2.1
  rw [e9, hO.2.2.1] at h4
  exact h5 h4
/-- a run of places copied -/
theorem r_copyl {a0 a idx : Nat} {sp dp n : Int32} (C0 : Mx p s m c cc nL args own G) (hO : Ok G S H) (hS : va_S (Ab G.b) s.heap H locs) (ha0 : isA S a0 22) (ha : isA S a 22) (hsz : ls.size = nL) (t1 : Cond.methodLink own idx arraycopyName ∈ lw_good) (t2 : Cond.native arraycopyName ∈ lw_good) (t3 : Cond.static arraycopyName ∈ lw_good) (t4 : Cond.initialized "java/lang/System" ∈ lw_good)
    (h1 : ¬ sp < 0) (h2 : ¬ dp < 0) (h3 : ¬ n < 0) (h4 : sp.toNatClampNeg + n.toNatClampNeg ≤ S.N a0) (h5 : dp.toNatClampNeg + n.toNatClampNeg ≤ S.N a) (hframes : 1 ≤ R.frames) (hlocals : (rest.map fun v => v.category).sum + (nativeFrameWords "java/lang/System" "arraycopy" 5 + 11) ≤ R.locals) (hdg : decode cc pc = .ok (.invokestatic idx, 3))
    (kk : ∀ (H1 : Heap) (locs1 : List Loc), Ok G (S.putAJ a (va_cpy (S.AJ a0) (S.AJ a) sp.toNatClampNeg dp.toNatClampNeg n.toNatClampNeg)) H1 → va_S (Ab G.b) s.heap H1 locs1 → W p l e R s m args below meth c H1 locs1 cells slots Q (F0 m (pc + 3) ls rest)) : W p l e R s m args below meth c H locs cells slots Q (F0 m pc ls (.int n :: .int dp :: .ref a :: .int sp :: .ref a0 :: rest)) := by
  obtain ⟨q0, hq0⟩ := ok_get (G := G) ha0.1
  rw [wF_arr ha0.2 (by decide)] at hq0
  obtain ⟨q1, hq1⟩ := ok_get (G := G) ha.1
  have hq2 := hq1
  rw [wF_arr ha.2 (by decide)] at hq2
  refine va_copyl C0.1 C0.2.1 (C0.2.2.1.trans hsz.symm) C0.2.2.2.1 (C0.2.2.2.2.1 _ t1) (C0.2.2.2.2.1 _ t2) (C0.2.2.2.2.1 _ t3) (C0.2.2.2.2.1 _ t4) C0.2.2.2.2.2.1 hO.1 hO.2.1 hS q0 q1 2 2 hq0 hq2 (ty := .long) rfl rfl rfl h1 h2 h3 h4 h5 (fun i hi => rfl) hframes hlocals hdg (fun H1 locs1 hP hD hS1 => kk H1 locs1 (ok_set (S := S) (S' := S.putAJ a (va_cpy (S.AJ a0) (S.AJ a) sp.toNatClampNeg dp.toNatClampNeg n.toNatClampNeg)) hO.2.2 rfl ⟨hP, hD⟩ hO.2.1 ha.1 hq1 ?_) hS1)
  refine wF_arrPut ha.2 (by decide) rfl rfl ?_ (fun b hb => ?_)
  · show Sum.inr (Sum.inl (va_up S.AJ a (va_cpy (S.AJ a0) (S.AJ a) sp.toNatClampNeg dp.toNatClampNeg n.toNatClampNeg) a)) = _
    rw [va_up_self]
  · refine wF_ne rfl (fun _ => rfl) (fun _ => rfl) (fun _ => rfl) rfl ?_ ?_ ?_ ?_ <;> first | rfl | exact va_up_ne _ _ hb
theorem r_copyo {a0 a idx : Nat} {sp dp n : Int32} (C0 : Mx p s m c cc nL args own G) (hO : Ok G S H) (hS : va_S (Ab G.b) s.heap H locs) (ha0 : isA S a0 25) (ha : isA S a 25) (hsz : ls.size = nL) (t1 : Cond.methodLink own idx arraycopyName ∈ lw_good) (t2 : Cond.native arraycopyName ∈ lw_good) (t3 : Cond.static arraycopyName ∈ lw_good) (t4 : Cond.initialized "java/lang/System" ∈ lw_good)
    (h1 : ¬ sp < 0) (h2 : ¬ dp < 0) (h3 : ¬ n < 0) (h4 : sp.toNatClampNeg + n.toNatClampNeg ≤ S.N a0) (h5 : dp.toNatClampNeg + n.toNatClampNeg ≤ S.N a) (hel : ∀ i, i < n.toNatClampNeg → ∀ y, S.AR a0 (sp.toNatClampNeg + i) = some y → isEl S y) (hframes : 1 ≤ R.frames) (hlocals : (rest.map fun v => v.category).sum + (nativeFrameWords "java/lang/System" "arraycopy" 5 + 11) ≤ R.locals) (hdg : decode cc pc = .ok (.invokestatic idx, 3))
    (kk : ∀ (H1 : Heap) (locs1 : List Loc), Ok G (S.putAR a (va_cpy (S.AR a0) (S.AR a) sp.toNatClampNeg dp.toNatClampNeg n.toNatClampNeg)) H1 → va_S (Ab G.b) s.heap H1 locs1 → W p l e R s m args below meth c H1 locs1 cells slots Q (F0 m (pc + 3) ls rest)) : W p l e R s m args below meth c H locs cells slots Q (F0 m pc ls (.int n :: .int dp :: .ref a :: .int sp :: .ref a0 :: rest)) := by
  obtain ⟨q0, hq0⟩ := ok_get (G := G) ha0.1
  rw [wF_arr ha0.2 (by decide)] at hq0
  obtain ⟨q1, hq1⟩ := ok_get (G := G) ha.1
  have hq2 := hq1
  rw [wF_arr ha.2 (by decide)] at hq2
  refine va_copyM C0.1 C0.2.1 (C0.2.2.1.trans hsz.symm) C0.2.2.2.1 (C0.2.2.2.2.1 _ t1) (C0.2.2.2.2.1 _ t2) (C0.2.2.2.2.1 _ t3) (C0.2.2.2.2.1 _ t4) C0.2.2.2.2.2.1 hO.1 hO.2.1 hS q0 q1 5 5 hq0 hq2 (E0 := "java/lang/Object") (E1 := "java/lang/Object") rfl rfl h1 h2 h3 h4 h5 (fun i hi y hy => ?_) hframes hlocals hdg (fun H1 locs1 hP hD hS1 => kk H1 locs1 (ok_set (S := S) (S' := S.putAR a (va_cpy (S.AR a0) (S.AR a) sp.toNatClampNeg dp.toNatClampNeg n.toNatClampNeg)) hO.2.2 rfl ⟨hP, hD⟩ hO.2.1 ha.1 hq1 ?_) hS1)
  · obtain ⟨k, r, hk, hlt, hr, hcs⟩ := el_cast C0 (hel i hi y hy)
    obtain ⟨q3, hq3⟩ := ok_get (G := G) hk.1
    rw [wF_obj hk.2 hlt] at hq3
    refine va_rAny C0.2.2.2.2.2.1 hO.1 hq3 hr (fun comp c0 e1 e2 => ?_)
    obtain ⟨c9, t9, f1, f2, f3⟩ := Cond.castable_spec (args := #[]) (o := none) (first := s) (idx := []) hcs
    rw [Option.some.inj (e1.symm.trans f2), Option.some.inj (e2.symm.trans f1)]
    exact f3
  · refine wF_arrPut ha.2 (by decide) rfl rfl ?_ (fun b hb => ?_)
    · show Sum.inr (Sum.inr (Sum.inr (Sum.inr (va_up S.AR a (va_cpy (S.AR a0) (S.AR a) sp.toNatClampNeg dp.toNatClampNeg n.toNatClampNeg) a)))) = _
      rw [va_up_self]
    · refine wF_ne rfl (fun _ => rfl) (fun _ => rfl) (fun _ => rfl) rfl ?_ ?_ ?_ ?_ <;> first | rfl | exact va_up_ne _ _ hb
/-- the constructor of a nest mate -/
theorem c_IN {maxL n b : Nat} {rm : Room} {As : List Value} {bytes : ByteArray} (C0 : Mx p s m c cc nL args RX7 G) (hO : Ok G S H) (hS : va_S (Ab G.b) s.heap H locs)
    (hM : gM l yX6_init bytes maxL none rm (.ref b :: As) G S P) (t2 : Cond.instanceMethod yX6_init ∈ lw_good) (t4 : Cond.initialized yX6_init.cls ∈ lw_good) (t5 : Cond.code yX6_init bytes maxL none ∈ lw_good) (hd : nmOk yX6_init n) (hn : As.length = n) (hR : rmOk rm R maxL cells slots)
    (hsize : ls.size = nL) (hst : st0 = As.reverse ++ .ref b :: rest) (hW : (rest.map fun v => v.category).sum ≤ 8) (hdg : decode cc pc = .ok (.invokespecial 53, 3))
    (kk : ∀ (v : Option Value) (S1 : Hp) (H1 : Heap) (locs1 : List Loc), P v S1 → Ok G S1 H1 → va_S (Ab G.b) s.heap H1 locs1 → W p l e R s m args below meth c H1 locs1 (cells + rm.cells) (slots + rm.slots) Q (F0 m (pc + 3) ls (v.toList ++ rest))) : W p l e R s m args below meth c H locs cells slots Q (F0 m pc ls st0) := by
  obtain ⟨hx, hb, hml, hown, hts, hK, hE, -⟩ := id C0
  exact c_fin (va_runIN (As := As) (rest := rest) ⟨hx, hb, hml, hown, hts⟩ hM ⟨va_cnB n hts (gd_C t5) rfl rfl rfl hE.2.2.2.2.2.2.2.2.2.1 (hts _ t4) hd hR.1, rfl, hts _ t2⟩ ⟨wd_blind _ _ _, fun U hU hW9 => ⟨rfl, wd_call C0 hO hS hU hW9⟩⟩ rfl hn hsize hst (lv_room hW) hdg hR.2) hS kk
end PL
section PE2
variable {p : Program} {l : Launch} {e : Env} {R : Room} {s : State} {m : MethodId} {args : Array Value} {below : List Frame} {meth : Method} {c : Code} {H : Heap} {locs : List Loc} {cells slots : Nat} {cc : ByteArray} {pc : Nat} {ls : Array Slot} {G : Gw} {S : Hp} {nL : Nat} {own : String} {mc ms : Nat}
theorem e_F {Φ : Hp → UInt32 → Prop} {v : UInt32} (C0 : Mx p s m c cc nL args own G) (Y : My meth (some .float)) (hO : Ok G S H) (hS : va_S (Ab G.b) s.heap H locs) (hh : Φ S v) (hc : cells ≤ mc) (hs : slots ≤ ms) (hdg : decode cc pc = .ok (.freturn, 1)) : W p l e R s m args below meth c H locs cells slots (MQ below (gQ G (PF Φ)) args s mc ms (Ab G.b)) (F0 m pc ls [.float v]) := by
  refine W.widen hc hs ?_
  exact W.fret C0.1 C0.2.1 Y.1 (fun t ht hW => ⟨⟨some (.float v), S, rfl, ⟨v, rfl, hh⟩, by unfold Wp; rw [ht]; exact hO⟩, hS.F ht⟩) hS.2.2 hdg Y.2
theorem e_D {Φ : Hp → UInt64 → Prop} {v : UInt64} (C0 : Mx p s m c cc nL args own G) (Y : My meth (some .double)) (hO : Ok G S H) (hS : va_S (Ab G.b) s.heap H locs) (hh : Φ S v) (hc : cells ≤ mc) (hs : slots ≤ ms) (hdg : decode cc pc = .ok (.dreturn, 1)) : W p l e R s m args below meth c H locs cells slots (MQ below (gQ G (PD Φ)) args s mc ms (Ab G.b)) (F0 m pc ls [.double v]) := by
  refine W.widen hc hs ?_
  exact W.dret C0.1 C0.2.1 Y.1 (fun t ht hW => ⟨⟨some (.double v), S, rfl, ⟨v, rfl, hh⟩, by unfold Wp; rw [ht]; exact hO⟩, hS.F ht⟩) hS.2.2 hdg Y.2
end PE2
/-- a method of a class of which others are overridden -/
theorem ofWF {l : Launch} {y : MethodName} {ws ws' : List Cond} {rm : Room} {Pc : Array Value → State → Prop} {Qc : Array Value → State → Outcome → State → Prop} {mc ms : Nat} {free : Addr → Prop} {cc : ByteArray} {maxL : Nat} {ret : Option FieldType}
    (hy : plainFor y = true) (hw : ws = Cond.code y cc maxL ret :: ws')
    (body : ∀ p e s m args below meth c s₁, BodyLoose p l y (headSpec ws rm) cc maxL ret e s m args below meth c s₁ → c.maxLocals = maxL → Pc args s →
      W p l e (headSpec ws rm).room s m args below meth c s.heap [] 0 0 (MQ below Qc args s mc ms free) (entryFrame m args maxL)) : Met l y ws rm Pc Qc mc ms free := by
  refine MetFree.of_bodySF (code := cc) (maxLocals := maxL) (ret := ret) hy ?_ ?_
  · intro args s m h hn
    obtain ⟨meth, c, h1, h2, h3, h4, h5, h6, -, -⟩ := Cond.code_spec hn (atoms_spec (ws := ws) h _ (by rw [hw]; exact List.mem_cons_self))
    exact ⟨meth, c, h1, h2, h3, h4, h5, h6⟩
  · intro p e s m args below meth c s₁ B hml hP _
    have hh0 : s₁.heap = s.heap := by rw [B.state]; rfl
    obtain ⟨t, a1, o, b1, b2, b3⟩ := body p e s m args below meth c s₁ B hml hP s₁ hh0 (Stand.of_body B)
    exact ⟨t, o, a1, b1, b2, ⟨b3.1, b3.2⟩⟩
section PX9
variable {p : Program} {l : Launch} {e : Env} {R : Room} {s : State} {m : MethodId} {args : Array Value} {below : List Frame} {meth : Method} {c : Code} {H : Heap} {locs : List Loc} {cells slots : Nat} {Q : State → Prop}
variable {cc : ByteArray} {pc : Nat} {ls : Array Slot} {rest : List Value} {G : Gw} {S : Hp} {nL : Nat} {own : String}
/-! the script, a copy of an array of longs, a cast to its class -/
theorem r_slen (C0 : Mx p s m c cc nL args own G) (hS : va_S (Ab G.b) s.heap H locs) (hdg : decode cc pc = .ok (.arraylength, 1))
    (kk : W p l e R s m args below meth c H locs cells slots Q (F0 m (pc + 1) ls (.int (Int32.ofNat G.xl) :: rest))) : W p l e R s m args below meth c H locs cells slots Q (F0 m pc ls (.ref G.xb :: rest)) := by
  obtain ⟨hx, hb, -, -, -, -, hE, -⟩ := C0
  obtain ⟨-, -, -, -, -, -, -, -, -, -, -, -, e1, e2, e3⟩ := hE
  exact va_slen hx hb e1 e2 e3 hS hdg kk
theorem r_sld {i : Int32} (C0 : Mx p s m c cc nL args own G) (hS : va_S (Ab G.b) s.heap H locs) (hin : vp_in i G.xl) (hdg : decode cc pc = .ok (.iaload, 1))
    (kk : W p l e R s m args below meth c H locs cells slots Q (F0 m (pc + 1) ls (.int (G.xs i.toNatClampNeg) :: rest))) : W p l e R s m args below meth c H locs cells slots Q (F0 m pc ls (.int i :: .ref G.xb :: rest)) := by
  obtain ⟨hx, hb, -, -, -, -, hE, -⟩ := C0
  obtain ⟨-, -, -, -, -, -, -, -, -, -, -, -, e1, e2, e3⟩ := hE
  exact va_sld hx hb e1 e2 e3 hS hin hdg kk
theorem r_castL {a idx : Nat} (C0 : Mx p s m c cc nL args own G) (hO : Ok G S H) (ha : isA S a 22) (t1 : Cond.classLink own idx "[J" ∈ lw_good) (hdg : decode cc pc = .ok (.checkcast idx, 3))
    (kk : W p l e R s m args below meth c H locs cells slots Q (F0 m (pc + 3) ls (.ref a :: rest))) : W p l e R s m args below meth c H locs cells slots Q (F0 m pc ls (.ref a :: rest)) := by
  obtain ⟨hx, hb, -, hown, hts, hK, -, -⟩ := C0
  obtain ⟨q0, hq0⟩ := ok_get (G := G) ha.1
  rw [wF_arr ha.2 (by decide)] at hq0
  exact va_castA hx hb hown (hts _ t1) hO.1 q0 hq0 (hK.2 2 (G.cy 22, .long) rfl).2 hdg kk
theorem r_clone {a idx : Nat} (C0 : Mx p s m c cc nL args own G) (hO : Ok G S H) (hS : va_S (Ab G.b) s.heap H locs) (hsz : ls.size = nL) (ha : isA S a 22) (hN : S.N a ≤ 5)
    (t1 : Cond.methodLink own idx ⟨"[J", "clone", "()Ljava/lang/Object;"⟩ ∈ lw_good) (t2 : Cond.sameMethod "[J" "java/lang/Object" "clone" "()Ljava/lang/Object;" ∈ lw_good) (t3 : Cond.native ⟨"java/lang/Object", "clone", "()Ljava/lang/Object;"⟩ ∈ lw_good) (t4 : Cond.instanceMethod ⟨"java/lang/Object", "clone", "()Ljava/lang/Object;"⟩ ∈ lw_good) (t5 : Cond.selects "[J" ⟨"[J", "clone", "()Ljava/lang/Object;"⟩ ⟨"java/lang/Object", "clone", "()Ljava/lang/Object;"⟩ ∈ lw_good)
    (hcells : cells + 1 ≤ R.cells) (hslots : slots + 5 ≤ R.slots) (hframes : 1 ≤ R.frames) (hlocals : (rest.map fun v => v.category).sum + 14 ≤ R.locals) (hdg : decode cc pc = .ok (.invokevirtual idx, 3))
    (kk : ∀ (q : Nat) (H1 : Heap), q ∉ S.L → Ok G ((S.new q 22 (S.N a)).putAJ q (S.AJ a)) H1 → va_S (Ab G.b) s.heap H1 locs → W p l e R s m args below meth c H1 locs (cells + 1) (slots + 5) Q (F0 m (pc + 3) ls (.ref q :: rest))) : W p l e R s m args below meth c H locs cells slots Q (F0 m pc ls (.ref a :: rest)) := by
  obtain ⟨hx, hb, hml, hown, hts, hK, hE, hbl⟩ := id C0
  obtain ⟨q0, hq0⟩ := ok_get (G := G) ha.1
  rw [wF_arr ha.2 (by decide)] at hq0
  have hcs : Cond.castable "[J" "java/lang/Cloneable" ∈ lw_oth := by decide +kernel
  refine va_clone hx hb (hml.trans hsz.symm) hown (hts _ t1) (hts _ t2) (hts _ t3) (hts _ t4) (hts _ t5) (hE.2.2.2.2.2.2.2.2.1 _ hcs) hK hO.1 hO.2.1 hS (fun q hq => Nat.le_trans hbl hq) q0 2 hq0 rfl (hK.2 2 (G.cy 22, .long) rfl).2 ?_ hframes hlocals hcells (Nat.le_trans (Nat.add_le_add_left hN _) hslots) hdg (fun q H1 hK1 hP hD hS1 => ?_)
  · intro i v hv
    have h1 : (arrV (G.cy 22) (S.N a) (fun j => .long (S.AJ a j))).slots[i]? = some v := hv
    by_cases hi : i < S.N a
    · rw [arrV_read _ _ hi] at h1
      cases h1
      rfl
    · rw [Array.getElem?_eq_none (by rw [arrV_size]; omega)] at h1
      cases h1
  · have hw : wF G.cy ((S.new q 22 (S.N a)).putAJ q (S.AJ a)) q = .inl (G.cy 22, (S.N a, aval S 22 a)) := by
      have hk : ((S.new q 22 (S.N a)).putAJ q (S.AJ a)).K q = 22 := va_up_self _ _ _
      rw [wF_arr hk (by decide)]
      have h1 : ((S.new q 22 (S.N a)).putAJ q (S.AJ a)).N q = S.N a := va_up_self _ _ _
      rw [h1]
      refine congrArg (fun z => Sum.inl (G.cy 22, (S.N a, z))) ?_
      show Sum.inr (Sum.inl (va_up (S.new q 22 (S.N a)).AJ q (S.AJ a) q)) = Sum.inr (Sum.inl (S.AJ a))
      rw [va_up_self]
    obtain ⟨h1, h2⟩ := ok_pushW (S := S) (S' := (S.new q 22 (S.N a)).putAJ q (S.AJ a)) hO.2.2 ⟨hP, hD⟩ hw rfl rfl (fun b hb9 => by
      refine Eq.trans (wF_ne ?_ (fun _ => ?_) (fun _ => ?_) (fun _ => ?_) ?_ ?_ ?_ ?_ ?_) rfl
      · exact va_up_ne _ _ hb9
      · exact if_neg hb9
      · exact if_neg hb9
      · exact if_neg hb9
      · exact va_up_ne _ _ hb9
      · exact va_up_ne _ _ hb9
      · exact (va_up_ne _ _ hb9).trans (va_up_ne _ _ hb9)
      · exact va_up_ne _ _ hb9
      · exact va_up_ne _ _ hb9)
    refine W.widen (k := cells + 1) (n := slots + 5) (Nat.le_refl _) (Nat.add_le_add_left hN slots) ?_
    exact kk q H1 h1 h2 hS1
end PX9
