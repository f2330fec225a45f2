/-! THE LAW'S START: what the statement gives of it -/
theorem st_tbl (ws : List Cond) (h : ws.all (fun w => decide (w ∈ lw_tbl)) = true) : ∀ w ∈ ws, w ∈ lw_tbl := fun w hw => of_decide_eq_true (List.all_eq_true.mp h w hw)
theorem st_kn {s : State} {args : Array Value} (hts : ∀ w ∈ lw_tbl, w.before args s = true) {C : String} {T : u_T} {N n : Nat} (h1 : (u_ws C T N).all (fun w => decide (w ∈ lw_tbl)) = true) (h2 : Cond.instantiable C n ∈ lw_tbl) : ∃ (cC : ClassId) (iS : Nat → Nat), u_Kn s C T N cC iS := u_known hts (st_tbl _ h1) (hts _ h2)
theorem st_pick {s : State} : ∀ (cl : List vw_C), (∀ q ∈ cl, ∃ (cC : ClassId) (iS : Nat → Nat), u_Kn s q.1 q.2.1 q.2.2 cC iS) → ∃ (dC : Nat → ClassId) (dI : Nat → Nat → Nat), ∀ (k : Nat) (q : vw_C), cl[k]? = some q → u_Kn s q.1 q.2.1 q.2.2 (dC k) (dI k) := by
  intro cl h
  have g : ∀ k : Nat, ∃ x : ClassId × (Nat → Nat), ∀ q : vw_C, cl[k]? = some q → u_Kn s q.1 q.2.1 q.2.2 x.1 x.2 := fun k => by
    cases hk : cl[k]? with
    | none => exact ⟨(0, fun _ => 0), fun q hq => by cases hq⟩
    | some q =>
      obtain ⟨cC, iS, h9⟩ := h q (List.mem_of_getElem? hk)
      exact ⟨(cC, iS), fun q' hq => by cases hq; exact h9⟩
  exact ⟨fun k : Nat => (Classical.choose (g k)).1, fun k => (Classical.choose (g k)).2, fun k q hq => Classical.choose_spec (g k) q hq⟩
theorem st_cl {s : State} {args : Array Value} (hts : ∀ w ∈ lw_tbl, w.before args s = true) : ∀ q ∈ vwCl, ∃ (cC : ClassId) (iS : Nat → Nat), u_Kn s q.1 q.2.1 q.2.2 cC iS := by
  intro q hq
  simp only [vwCl, List.mem_cons, List.not_mem_nil, or_false] at hq
  rcases hq with rfl | rfl | rfl | rfl | rfl | rfl | rfl | rfl | rfl | rfl
  · exact st_kn (n := 4) hts (by decide +kernel) (by decide +kernel)
  · exact st_kn (n := 6) hts (by decide +kernel) (by decide +kernel)
  · exact st_kn (n := 3) hts (by decide +kernel) (by decide +kernel)
  · exact st_kn (n := 7) hts (by decide +kernel) (by decide +kernel)
  · exact st_kn (n := 3) hts (by decide +kernel) (by decide +kernel)
  · exact st_kn (n := 2) hts (by decide +kernel) (by decide +kernel)
  · exact st_kn (n := 2) hts (by decide +kernel) (by decide +kernel)
  · exact st_kn (n := 11) hts (by decide +kernel) (by decide +kernel)
  · exact st_kn (n := 5) hts (by decide +kernel) (by decide +kernel)
  · exact st_kn (n := 16) hts (by decide +kernel) (by decide +kernel)
theorem st_arr {s : State} {args : Array Value} {ty : FieldType} (h : (Cond.arrayClass ty).before args s = true) : ∃ c : ClassId, ArrOfT s c ty ∧ s.vm.findClass ("[" ++ ty.toString) = some c := by
  obtain ⟨c, k, comp, h1, h2, h3⟩ := Cond.arrayClass_spec h
  exact ⟨c, fun n z => ⟨fun x => (by intro q; cases q), k, h2, comp, h3⟩, h1⟩
theorem st_over {s : State} {args : Array Value} {ty : FieldType} (h : (Cond.arrayOver (.array ty)).before args s = true) : AOA2 ty s := by
  obtain ⟨comp, c, k, h1, h2, h3, h4⟩ := Cond.arrayOver_specA h
  exact ⟨comp, c, k, h1, h2, h3, h4⟩
theorem st_arr2 {s : State} {ty : FieldType} (h : AOA2 ty s) : ∃ c : ClassId, ArrOfT s c (.array ty) ∧ s.vm.findClass ("[" ++ (FieldType.array ty).toString) = some c := by
  obtain ⟨comp, c, k, h1, h2, h3, h4⟩ := h
  exact ⟨c, fun n z => ⟨fun x => (by intro q; cases q), k, h2, comp, h3⟩, h4⟩
theorem st_str {s : State} {args : Array Value} (x : String × Nat × String) (h : (Cond.stringRef x.1 x.2.1 x.2.2).before args s = true) (hr : (Cond.exactly (.string x.1 x.2.1) "java/lang/String").before args s = true) : ∃ a, vk_R x.1 x.2.1 x.2.2 a s := by
  obtain ⟨a, -, -, -, h1, -⟩ := Cond.exactly_spec hr
  exact ⟨a, vk_R.of (A := args) h h1⟩
theorem st_len0 {args : Array Value} {s : State} {t : Term} (h : (Cond.eq (.length t) (.int 0)).before args s = true) : (Term.length t).eval args s none [] s = some (.int 0) := by
  cases hv : (Term.length t).eval args s none [] s with
  | none => simp [Cond.before, Cond.holds, Cond.value, hv] at h
  | some w =>
    have hz : (Term.int 0).eval args s none [] s = some (.int 0) := rfl
    simp only [Cond.before, Cond.holds, Cond.value, hv, hz] at h
    cases w <;> simp_all
abbrev eaT : Term := .static "java/util/ArrayList" "DEFAULTCAPACITY_EMPTY_ELEMENTDATA" "[Ljava/lang/Object;"
abbrev gvL : List Cond := flatC (Jvm.Cond.and given_1 narrow_1)
theorem st_ev {s : State} {args : Array Value} {b L : Nat} {xs : Nat → Int32} (D : va_G) (cy : Nat → ClassId) (hX : va_X b L xs s s.heap) (hbl : b < s.heap.size) (hts : ∀ w ∈ lw_tbl, w.before args s = true) (hgv : ∀ w ∈ gvL, w.before args s = true) : ∃ t0 mi : Nat, Ev (D, cy, s.heap.size, t0, mi, b, L, xs) s s.heap := by
  have hA : ∀ a : Nat, a < s.heap.size → ¬ Ab s.heap.size a := fun a ha => Nat.not_le.mpr ha
  obtain ⟨t0, ht0, hT0⟩ := va_Tof (tm := eaT) (ty := .object "java/lang/Object") (N := 0) (f := fun _ => .null) (A := Ab s.heap.size) (by decide) (hgv _ (by decide +kernel)) (st_len0 (hgv _ (by decide +kernel))) (fun j hj => absurd hj (Nat.not_lt_zero _)) hA
  obtain ⟨mi, hmi⟩ := va_Mi.of (C := "[Ljava/lang/Object;") (hgv (.isRef (.mirror "[Ljava/lang/Object;")) (by decide +kernel))
  have hs1 : strs.all (fun x => decide (Cond.stringRef x.1 x.2.1 x.2.2 ∈ lw_tbl) && decide (Cond.exactly (.string x.1 x.2.1) "java/lang/String" ∈ gvL)) = true := by decide +kernel
  have ho1 : lw_oth.all (fun w => decide (w ∈ lw_tbl)) = true := by decide +kernel
  have hn1 : lw_nc.all (fun q => decide (Cond.not (.castable q.1 q.2) ∈ gvL)) = true := by decide +kernel
  refine ⟨t0, mi, va_Zof (hts _ (by decide +kernel)) (hts _ (by decide +kernel)) ht0 hA, hT0, vx_Zqof (hts _ (by decide +kernel)) (hts _ (by decide +kernel)) (hgv _ (by decide +kernel)) hA, vx_Zqof (hts _ (by decide +kernel)) (hts _ (by decide +kernel)) (hgv _ (by decide +kernel)) hA, fun x hx => ?_, hmi, va_Dc.of (hts _ (by decide +kernel)), va_AO.of (hts _ (by decide +kernel)), fun w hw => ?_, va_Nw.of rfl (hts _ (by decide +kernel)), fun q hq => ?_, fun t ht => (List.not_mem_nil ht).elim, hX, hbl, Nat.not_le.mpr hbl⟩
  · have h9 := List.all_eq_true.mp hs1 x hx
    simp only [Bool.and_eq_true, decide_eq_true_eq] at h9
    exact st_str x (hts _ h9.1) (hgv _ h9.2)
  · exact va_Nw.of (oth_onTables hw) (hts _ (of_decide_eq_true (List.all_eq_true.mp ho1 w hw)))
  · exact va_Nc.of (hgv _ (of_decide_eq_true (List.all_eq_true.mp hn1 q hq)))
theorem st_K {s : State} {args : Array Value} (hts : ∀ w ∈ lw_tbl, w.before args s = true) : ∃ (D : va_G) (cy : Nat → ClassId), va_K D vwCl (vTy cy) s := by
  obtain ⟨dC, dI, hD⟩ := st_pick vwCl (st_cl hts)
  obtain ⟨c20, a20, f20⟩ := st_arr (ty := .char) (hts _ (by decide +kernel))
  obtain ⟨c21, a21, f21⟩ := st_arr (ty := .int) (hts _ (by decide +kernel))
  obtain ⟨c22, a22, f22⟩ := st_arr (ty := .long) (hts _ (by decide +kernel))
  obtain ⟨c23, a23, f23⟩ := st_arr (ty := .boolean) (hts _ (by decide +kernel))
  obtain ⟨o1, c25, k25, o2, -, o3, o4, o5⟩ := Cond.arrayOver_spec (hts (.arrayOver (.object "java/lang/Object")) (by decide +kernel))
  refine ⟨(dC, dI), fun k => if k = 20 then c20 else if k = 21 then c21 else if k = 22 then c22 else if k = 23 then c23 else c25, hD, fun k q hq => ?_⟩
  match k, hq with
  | 0, hq => cases hq; exact ⟨a20, f20⟩
  | 1, hq => cases hq; exact ⟨a21, f21⟩
  | 2, hq => cases hq; exact ⟨a22, f22⟩
  | 3, hq => cases hq; exact ⟨a23, f23⟩
  | 4, hq => cases hq; exact ⟨a21, f21⟩
  | 5, hq => cases hq; exact ⟨fun n z => ⟨fun x => (by intro q; cases q), k25, o3, o1, o4⟩, k25, o1, o3, o4, o2, o5⟩
  | k + 6, hq => simp [vTy] at hq
