/-! ARRAYS OF ARRAYS, MADE AT ONCE: two and three dimensions, out of the classes themselves -/
def gr_out (c : ClassId) (A h0 N : Nat) : Nat → Cell
  | 0 => { cls := c, slots := Array.replicate A .null, vm := .none }
  | i + 1 => (gr_out c A h0 N i).setSlot i (.ref (h0 + 1 + i * (1 + N)))
def gr_fill (s : State) (c c2 c3 : ClassId) (A N M : Nat) (dv : Value) : Nat → State
  | 0 => s.pushCell (gr_out c A s.heap.size N 0)
  | i + 1 => (Jvm.Free.Multi.fill (gr_fill s c c2 c3 A N M dv i) c2 c3 N M dv N).setCell s.heap.size (gr_out c A s.heap.size N (i + 1))
theorem gr_out_facts (c : ClassId) (A h0 N : Nat) : ∀ i, (gr_out c A h0 N i).cls = c ∧ (gr_out c A h0 N i).vm = .none ∧ (gr_out c A h0 N i).slots.size = A
  | 0 => ⟨rfl, rfl, by simp [gr_out]⟩
  | i + 1 => by
    obtain ⟨a, b, d⟩ := gr_out_facts c A h0 N i
    exact ⟨by simp [gr_out, Cell.setSlot, a], by simp [gr_out, Cell.setSlot, b], by simp [gr_out, Cell.setSlot, d]⟩
theorem gr_facts (s : State) (c c2 c3 : ClassId) (A N M : Nat) (dv : Value) : ∀ i, (gr_fill s c c2 c3 A N M dv i).heap.size = s.heap.size + 1 + i * (1 + N) ∧ (gr_fill s c c2 c3 A N M dv i).heap[s.heap.size]? = some (gr_out c A s.heap.size N i) ∧
    (gr_fill s c c2 c3 A N M dv i).vm = s.vm ∧ (gr_fill s c c2 c3 A N M dv i).slotsUsed = s.slotsUsed + A + i * (N + N * M)
  | 0 => ⟨by simp [gr_fill], by simp [gr_fill], rfl, by simp [gr_fill, gr_out]⟩
  | i + 1 => by
    obtain ⟨a, b, d, u⟩ := gr_facts s c c2 c3 A N M dv i
    obtain ⟨a2, b2, d2, u2⟩ := Jvm.Free.Multi.fill_facts (gr_fill s c c2 c3 A N M dv i) c2 c3 N M dv N
    have hlt : s.heap.size < (gr_fill s c c2 c3 A N M dv i).heap.size := by omega
    have hb' : (Jvm.Free.Multi.fill (gr_fill s c c2 c3 A N M dv i) c2 c3 N M dv N).heap[s.heap.size]? = some (gr_out c A s.heap.size N i) := by rw [Jvm.Free.Multi.fill_old _ _ _ _ _ _ hlt]; exact b
    refine ⟨?_, State.heap_setCell_self hb', ?_, ?_⟩
    · have e : (gr_fill s c c2 c3 A N M dv (i + 1)).heap.size = (Jvm.Free.Multi.fill (gr_fill s c c2 c3 A N M dv i) c2 c3 N M dv N).heap.size := by simp [gr_fill, State.setCell]
      rw [e, a2, a, Nat.succ_mul]
      omega
    · show (Jvm.Free.Multi.fill (gr_fill s c c2 c3 A N M dv i) c2 c3 N M dv N).vm = s.vm
      rw [d2, d]
    · show (Jvm.Free.Multi.fill (gr_fill s c c2 c3 A N M dv i) c2 c3 N M dv N).slotsUsed = _
      rw [u2, u, Nat.succ_mul]
      omega
theorem gr_fill_setTop (s : State) (f : JFrame) (c c2 c3 : ClassId) (A N M : Nat) (dv : Value) : ∀ i, gr_fill (s.setTop f) c c2 c3 A N M dv i = (gr_fill s c c2 c3 A N M dv i).setTop f
  | 0 => rfl
  | i + 1 => by simp only [gr_fill, gr_fill_setTop s f c c2 c3 A N M dv i, Jvm.Free.Multi.fill_setTop, State.heap_setTop, State.pushCell_setTop, State.setCell_setTop]
theorem gr_old (s : State) (c c2 c3 : ClassId) (A N M : Nat) (dv : Value) {a : Addr} (ha : a < s.heap.size) : ∀ i, (gr_fill s c c2 c3 A N M dv i).heap[a]? = s.heap[a]?
  | 0 => State.heap_pushCell_of_lt _ _ ha
  | i + 1 => by
    have f1 := (gr_facts s c c2 c3 A N M dv i).1
    have hlt : a < (gr_fill s c c2 c3 A N M dv i).heap.size := Nat.lt_of_lt_of_le ha (by rw [f1]; omega)
    show ((Jvm.Free.Multi.fill (gr_fill s c c2 c3 A N M dv i) c2 c3 N M dv N).setCell s.heap.size _).heap[a]? = _
    rw [State.heap_setCell_other (Nat.ne_of_gt ha), Jvm.Free.Multi.fill_old _ _ _ _ _ _ hlt]
    exact gr_old s c c2 c3 A N M dv ha i
theorem gr_lt {i j N : Nat} (h : j < i) : j * (1 + N) + (1 + N) ≤ i * (1 + N) := by
  have := Nat.mul_le_mul_right (1 + N) (show j + 1 ≤ i from h)
  rw [Nat.succ_mul] at this
  exact this
theorem gr_mid (s : State) (c c2 c3 : ClassId) (A N M : Nat) (dv : Value) : ∀ i j, j < i → (gr_fill s c c2 c3 A N M dv i).heap[s.heap.size + 1 + j * (1 + N)]? = some (Jvm.Free.Multi.outerC c2 N (s.heap.size + 1 + j * (1 + N)) N)
  | 0, _, h => absurd h (Nat.not_lt_zero _)
  | i + 1, j, h => by
    have f1 := (gr_facts s c c2 c3 A N M dv i).1
    show ((Jvm.Free.Multi.fill (gr_fill s c c2 c3 A N M dv i) c2 c3 N M dv N).setCell s.heap.size _).heap[s.heap.size + 1 + j * (1 + N)]? = _
    rw [State.heap_setCell_other (show s.heap.size ≠ s.heap.size + 1 + j * (1 + N) by omega)]
    rcases Nat.lt_or_ge j i with hj | hj
    · have h9 := gr_lt (N := N) hj
      have hlt : s.heap.size + 1 + j * (1 + N) < (gr_fill s c c2 c3 A N M dv i).heap.size := by rw [f1]; omega
      rw [Jvm.Free.Multi.fill_old _ _ _ _ _ _ hlt]
      exact gr_mid s c c2 c3 A N M dv i j hj
    · have e : j = i := by omega
      subst e
      have := (Jvm.Free.Multi.fill_facts (gr_fill s c c2 c3 A N M dv j) c2 c3 N M dv N).2.1
      rw [f1] at this
      exact this
theorem gr_in (s : State) (c c2 c3 : ClassId) (A N M : Nat) (dv : Value) : ∀ i j k, j < i → k < N → (gr_fill s c c2 c3 A N M dv i).heap[s.heap.size + 1 + j * (1 + N) + 1 + k]? = some (Jvm.Free.Multi.innerC c3 M dv)
  | 0, _, _, h, _ => absurd h (Nat.not_lt_zero _)
  | i + 1, j, k, h, hk => by
    have f1 := (gr_facts s c c2 c3 A N M dv i).1
    show ((Jvm.Free.Multi.fill (gr_fill s c c2 c3 A N M dv i) c2 c3 N M dv N).setCell s.heap.size _).heap[s.heap.size + 1 + j * (1 + N) + 1 + k]? = _
    rw [State.heap_setCell_other (show s.heap.size ≠ s.heap.size + 1 + j * (1 + N) + 1 + k by omega)]
    rcases Nat.lt_or_ge j i with hj | hj
    · have h9 := gr_lt (N := N) hj
      have hlt : s.heap.size + 1 + j * (1 + N) + 1 + k < (gr_fill s c c2 c3 A N M dv i).heap.size := by rw [f1]; omega
      rw [Jvm.Free.Multi.fill_old _ _ _ _ _ _ hlt]
      exact gr_in s c c2 c3 A N M dv i j k hj hk
    · have e : j = i := by omega
      subst e
      have := Jvm.Free.Multi.fill_inner (gr_fill s c c2 c3 A N M dv j) c2 c3 N M dv N k hk
      rw [f1] at this
      exact this
theorem gr_slot (c : ClassId) (A h0 N : Nat) : ∀ i, gr_out c A h0 N i = arrV c A (fun j => va_rf (if j < i then some (h0 + 1 + j * (1 + N)) else none))
  | 0 => by
    show ({ cls := c, slots := Array.replicate A .null, vm := .none } : Cell) = _
    rw [arrV_new]
    refine congrArg (arrV c A) (funext fun j => ?_)
    simp [va_rf]
  | i + 1 => by
    show (gr_out c A h0 N i).setSlot i (.ref (h0 + 1 + i * (1 + N))) = _
    rw [gr_slot c A h0 N i, arrV_store]
    refine congrArg (arrV c A) (funext fun j => ?_)
    by_cases e : j = i
    · subst e
      simp [va_rf, updV]
    · by_cases h : j < i
      · simp [va_rf, updV, e, h, Nat.lt_succ_of_lt h]
      · have : ¬ j < i + 1 := by omega
        simp [va_rf, updV, e, h, this]
section
variable {E : CtlPost} {e : Env} {d : Bool} {acts : List Action} {s : State}
theorem gr_make3 {c c2 c3 cc : ClassId} {k k2 kc : Class} {t0 t1 type : FieldType} {a n m : Int32} (hk : s.vm.classes[c]? = some k) (hkind : k.kind = .array c2 t0) (href : t0.isReference = true)
    (hk2 : s.vm.classes[c2]? = some k2) (hkind2 : k2.kind = .array c3 t1) (href2 : t1.isReference = true)
    (hkc : s.vm.classes[c3]? = some kc) (hkindc : kc.kind = .array cc type) (ha : ¬ a < 0) (hn : ¬ n < 0) (hm : ¬ m < 0)
    (hl0 : ¬ a.toNatClampNeg > e.platform.arrayLengthLimit) (hh0 : ¬ a.toNatClampNeg * componentBytes t0 > e.platform.maxHeapBytes)
    (hl1 : ¬ n.toNatClampNeg > e.platform.arrayLengthLimit) (hh1 : ¬ n.toNatClampNeg * componentBytes t1 > e.platform.maxHeapBytes)
    (hl2 : ¬ m.toNatClampNeg > e.platform.arrayLengthLimit) (hh2 : ¬ m.toNatClampNeg * componentBytes type > e.platform.maxHeapBytes)
    (hdf : fits type (defaultValue type) = true) (hdd : (defaultValue type).isDefault = true)
    (hc : s.heap.size + 1 + a.toNatClampNeg * (1 + n.toNatClampNeg) ≤ e.platform.maxCells) (hs : s.slotsUsed + a.toNatClampNeg + a.toNatClampNeg * (n.toNatClampNeg + n.toNatClampNeg * m.toNatClampNeg) ≤ e.platform.maxSlots)
    {Q : Addr → Pre} (hq : ∀ d' acts', Q s.heap.size d' acts' (gr_fill s c c2 c3 a.toNatClampNeg n.toNatClampNeg m.toNatClampNeg (defaultValue type) a.toNatClampNeg)) :
    wp (multianewarray.make c [a, n, m]) Q E e d acts s := by
  have hfind : ([n, m].find? (· < 0)) = none := by simp [hn, hm]
  rw [multianewarray.make]
  simp only [wp_bind', W.ite, ha, if_false, wp_pure', W.theClass, hk, hkind, Option.some.injEq, exists_eq_left']
  refine Jvm.Free.Multi.wp_newArray hk hkind hl0 hh0 (Jvm.Free.Multi.refFits href _ (Or.inl rfl)) rfl (by omega) (by have := Nat.zero_le (a.toNatClampNeg * (n.toNatClampNeg + n.toNatClampNeg * m.toNatClampNeg)); omega) ?_
  simp only [hfind]
  rw [ite_self, wp_bind', Std.Legacy.Range.forIn_eq_forIn_range']
  have hsz : ([:a.toNatClampNeg] : Std.Legacy.Range).size = a.toNatClampNeg := by simp [Std.Legacy.Range.size]
  rw [hsz]
  show wp (forIn (List.range' 0 a.toNatClampNeg 1) PUnit.unit _) _ E e d acts _
  refine wp_forIn_inv (fun rest s' => ∃ i, i ≤ a.toNatClampNeg ∧ rest = List.range' i (a.toNatClampNeg - i) ∧ s' = gr_fill s c c2 c3 a.toNatClampNeg n.toNatClampNeg m.toNatClampNeg (defaultValue type) i) _ _ ⟨0, Nat.zero_le _, rfl, rfl⟩ ?_ ?_
  · rintro x rest s' d' acts' Q' ⟨i, hi, hl, rfl⟩ hnext
    have hlt : i < a.toNatClampNeg := by
      rcases Nat.lt_or_ge i a.toNatClampNeg with h | h
      · exact h
      · rw [show a.toNatClampNeg - i = 0 from by omega] at hl; simp at hl
    obtain ⟨rfl, hrest⟩ : x = i ∧ rest = List.range' (i + 1) (a.toNatClampNeg - (i + 1)) := by
      rw [show a.toNatClampNeg - i = (a.toNatClampNeg - (i + 1)) + 1 from by omega, List.range'_succ] at hl
      exact ⟨(List.cons.inj hl).1, (List.cons.inj hl).2⟩
    obtain ⟨f1, f2, f3, f4⟩ := gr_facts s c c2 c3 a.toNatClampNeg n.toNatClampNeg m.toNatClampNeg (defaultValue type) x
    obtain ⟨o1, o2, o3⟩ := gr_out_facts c a.toNatClampNeg s.heap.size n.toNatClampNeg x
    have hmul := gr_lt (N := n.toNatClampNeg) hlt
    have hmul2 : x * (n.toNatClampNeg + n.toNatClampNeg * m.toNatClampNeg) + (n.toNatClampNeg + n.toNatClampNeg * m.toNatClampNeg) ≤ a.toNatClampNeg * (n.toNatClampNeg + n.toNatClampNeg * m.toNatClampNeg) := by
      have := Nat.mul_le_mul_right (n.toNatClampNeg + n.toNatClampNeg * m.toNatClampNeg) (show x + 1 ≤ a.toNatClampNeg from hlt)
      rw [Nat.succ_mul] at this; exact this
    simp only [wp_bind']
    refine Jvm.Free.Multi.wp_make2 (t0 := t1) (by rw [f3]; exact hk2) hkind2 href2 (by rw [f3]; exact hkc) hkindc hn hm hl1 hh1 hl2 hh2 hdf hdd (by rw [f1]; omega) (by rw [f4]; omega) (fun d2 acts2 => ?_)
    have hlt0 : s.heap.size < (gr_fill s c c2 c3 a.toNatClampNeg n.toNatClampNeg m.toNatClampNeg (defaultValue type) x).heap.size := by rw [f1]; omega
    simp only [wp_bind', W.writeLoc, wp_pure']
    refine ⟨gr_out c a.toNatClampNeg s.heap.size n.toNatClampNeg x, by rw [Jvm.Free.Multi.fill_old _ _ _ _ _ _ hlt0]; exact f2, by rw [o2]; simp, by rw [o3]; exact hlt, ?_, hnext _ _ _ ⟨x + 1, hlt, hrest, ?_⟩⟩
    · rw [o1, o2]
      have f5 := (Jvm.Free.Multi.fill_facts (gr_fill s c c2 c3 a.toNatClampNeg n.toNatClampNeg m.toNatClampNeg (defaultValue type) x) c2 c3 n.toNatClampNeg m.toNatClampNeg (defaultValue type) n.toNatClampNeg).2.2.1
      simp [State.fitsSlot, State.slotType?, f5, f3, hk, hkind, Jvm.Free.Multi.refFits href _ (Or.inr ⟨_, rfl⟩)]
    · rw [f1]; rfl
  · rintro s' d' acts' ⟨i, hi, hl, rfl⟩
    have hiN : i = a.toNatClampNeg := by
      rcases Nat.lt_or_ge i a.toNatClampNeg with h | h
      · rw [show a.toNatClampNeg - i = (a.toNatClampNeg - (i + 1)) + 1 from by omega, List.range'_succ] at hl; cases hl
      · omega
    subst hiN
    simp only [wp_pure']
    exact hq _ _
end
section
variable {p : Program} {l : Launch} {e : Env} {R : Room} {s : State} {m : MethodId} {args : Array Value} {below : List Frame} {meth : Method} {c : Code} {T : State} {locs : List Loc} {cells slots : Nat}
theorem gr_filled (X : Stand p l e R s m args below meth c T locs cells slots) (cA c2 c3 : ClassId) (A N M : Nat) (dv : Value) :
    ∀ i, ∃ J : List Loc, (∀ x ∈ J, T.heap.size ≤ x.base) ∧ Stand p l e R s m args below meth c (gr_fill T cA c2 c3 A N M dv i) (locs ++ J) (cells + 1 + i * (1 + N)) (slots + A + i * (N + N * M))
  | 0 => by
    have h := X.pushed (gr_out cA A T.heap.size N 0)
    rw [(gr_out_facts cA A T.heap.size N 0).2.2] at h
    exact ⟨[], (fun x hx => absurd hx List.not_mem_nil), by simpa [gr_fill] using h⟩
  | i + 1 => by
    obtain ⟨J, hJ, Xi⟩ := gr_filled X cA c2 c3 A N M dv i
    obtain ⟨f1, f2, f3, f4⟩ := gr_facts T cA c2 c3 A N M dv i
    have hlt0 : T.heap.size < (gr_fill T cA c2 c3 A N M dv i).heap.size := by rw [f1]; omega
    have Xf := Stand.filled Xi c2 c3 N M dv N
    have hcell : (Jvm.Free.Multi.fill (gr_fill T cA c2 c3 A N M dv i) c2 c3 N M dv N).heap[T.heap.size]? = some (gr_out cA A T.heap.size N i) := by rw [Jvm.Free.Multi.fill_old _ _ _ _ _ _ hlt0]; exact f2
    have h := Xf.stored hcell i (.ref (T.heap.size + 1 + i * (1 + N)))
    refine ⟨J ++ (((List.range N).map fun j => (⟨(gr_fill T cA c2 c3 A N M dv i).heap.size, j⟩ : Loc)) ++ [⟨T.heap.size, i⟩]), ?_, ?_⟩
    · intro x hx
      rcases List.mem_append.mp hx with hx | hx
      · exact hJ x hx
      · rcases List.mem_append.mp hx with hx | hx
        · obtain ⟨j, -, rfl⟩ := List.mem_map.mp hx
          exact Nat.le_of_lt hlt0
        · rw [List.mem_singleton] at hx
          rw [hx]
          exact Nat.le_refl _
    · have e1 : cells + 1 + (i + 1) * (1 + N) = cells + 1 + i * (1 + N) + 1 + N := by rw [Nat.succ_mul]; omega
      have e2 : slots + A + (i + 1) * (N + N * M) = slots + A + i * (N + N * M) + N + N * M := by rw [Nat.succ_mul]; omega
      rw [e1, e2, ← List.append_assoc, ← List.append_assoc]
      exact h
/-- three dimensions -/
theorem gr_stand3 (X : Stand p l e R s m args below meth c T locs cells slots) (hexec : p.tables.exec = Jvm.exec) {own nm : String} {index : Nat} {ty : FieldType}
    (hown : s.vm.findClass own = some m.cls) (hclink : (Cond.classLink own index nm).before args s = true)
    {cA c2 c3 cc : ClassId} {kA k2 kC : Class} {t0 t1 : FieldType} (hname : s.vm.findClass nm = some cA) (hkA : s.vm.classes[cA]? = some kA) (hkindA : kA.kind = .array c2 t0) (href0 : t0.isReference = true) (hk2 : s.vm.classes[c2]? = some k2) (hkind2 : k2.kind = .array c3 t1) (href1 : t1.isReference = true) (hkC : s.vm.classes[c3]? = some kC) (hkindC : kC.kind = .array cc ty) (hb0 : componentBytes t0 ≤ 8) (hb1 : componentBytes t1 ≤ 8) (hb2 : componentBytes ty ≤ 8)
    {g : JFrame} (hg : g.method = m) (hdg : decode c.code g.pc = .ok (.multianewarray index 3, 4)) {a n k : Int32} {rest : List Value} (hstack : g.stack = .int k :: .int n :: .int a :: rest)
    (ha : ¬ a < 0) (hn : ¬ n < 0) (hk : ¬ k < 0) (ha6 : a.toNatClampNeg ≤ 64) (hn6 : n.toNatClampNeg ≤ 64) (hk6 : k.toNatClampNeg ≤ 64)
    (hdf : fits ty (defaultValue ty) = true) (hdd : (defaultValue ty).isDefault = true)
    (hcells : cells + (1 + a.toNatClampNeg * (1 + n.toNatClampNeg)) ≤ R.cells) (hslots : slots + (a.toNatClampNeg + a.toNatClampNeg * (n.toNatClampNeg + n.toNatClampNeg * k.toNatClampNeg)) ≤ R.slots) :
    ∃ (vm₁ : Vm), s.WarmedH vm₁ ∧
      Stand p l e R s m args below meth c (gr_fill (T.setVm vm₁) cA c2 c3 a.toNatClampNeg n.toNatClampNeg k.toNatClampNeg (defaultValue ty) a.toNatClampNeg) locs (cells + 1 + a.toNatClampNeg * (1 + n.toNatClampNeg)) (slots + a.toNatClampNeg + a.toNatClampNeg * (n.toNatClampNeg + n.toNatClampNeg * k.toNatClampNeg)) ∧
      ∀ target, Steps p.tables e below ((gr_fill (T.setVm vm₁) cA c2 c3 a.toNatClampNeg n.toNatClampNeg k.toNatClampNeg (defaultValue ty) a.toNatClampNeg).setTop { g with pc := g.pc + 4, stack := .ref T.heap.size :: rest }) target →
        Steps p.tables e below (T.setTop g) target := by
  subst hg
  have hpl : e.platform.magicAccessors = ({} : Platform).magicAccessors := by rw [X.admits.platform]
  obtain ⟨c0, hfc0, hcl⟩ := Cond.classLink_spec hown hclink e.platform hpl
  cases hname.symm.trans hfc0
  obtain ⟨hg₁, hwarm₁, hready₁⟩ := State.classEntry (e := e) X.warmed hcl
  generalize T.vm.noted g.method.cls index (.cls cA) = vm₁ at hg₁ hwarm₁ hready₁
  have hal : s.vm.Alike vm₁ := hwarm₁.alike
  obtain ⟨kA₁, hkA₁, heA⟩ := hal.2.2 _ _ hkA
  obtain ⟨k2₁, hk2₁, he2⟩ := hal.2.2 _ _ hk2
  obtain ⟨kC₁, hkC₁, heC⟩ := hal.2.2 _ _ hkC
  have hkindA₁ : kA₁.kind = .array c2 t0 := by rw [heA]; exact hkindA
  have hkind2₁ : k2₁.kind = .array c3 t1 := by rw [he2]; exact hkind2
  have hkindC₁ : kC₁.kind = .array cc ty := by rw [heC]; exact hkindC
  have X₁ := X.noted hwarm₁
  obtain ⟨hr1, hr2⟩ := X.roomAbove hcells hslots
  obtain ⟨J, hJ, XF⟩ := gr_filled X₁ cA c2 c3 a.toNatClampNeg n.toNatClampNeg k.toNatClampNeg (defaultValue ty) a.toNatClampNeg
  have XG := XF.dropFresh (fun x hx => Nat.le_trans X.heapGrown (hJ x hx))
  refine ⟨vm₁, hwarm₁, XG, fun target hrest => ?_⟩
  have hL := Launch.admits_arrayLengthLimit X.admits
  have hB := Launch.admits_maxHeapBytes X.admits
  have hm0 : a.toNatClampNeg * componentBytes t0 ≤ 64 * 8 := Nat.mul_le_mul ha6 hb0
  have hm1 : n.toNatClampNeg * componentBytes t1 ≤ 64 * 8 := Nat.mul_le_mul hn6 hb1
  have hm2 : k.toNatClampNeg * componentBytes ty ≤ 64 * 8 := Nat.mul_le_mul hk6 hb2
  jvm_step X.here [hexec, hdg]
  simp only [multianewarray.sem, wp_bind', W.resolveClassAt_links (State.method?_setTop g X.here.top) hg₁]
  rw [W.popN, if_neg (by decide)]
  refine ⟨g, State.topJava?_setTop' (s := T.setVm vm₁) g X.here.top, [.int a, .int n, .int k], rest, rfl, hstack, ?_⟩
  simp only [List.mapM_cons, List.mapM_nil, wp_bind', wp_pure']
  refine gr_make3 (k := kA₁) (k2 := k2₁) (kc := kC₁) hkA₁ hkindA₁ href0 hk2₁ hkind2₁ href1 hkC₁ hkindC₁ ha hn hk (by rw [hL]; omega) (by rw [hB]; omega) (by rw [hL]; omega) (by rw [hB]; omega) (by rw [hL]; omega) (by rw [hB]; omega) hdf hdd (by show T.heap.size + 1 + _ ≤ _; omega) (by show T.slotsUsed + _ + _ ≤ _; omega) (fun d' acts' => ?_)
  have eS : ((T.setTop g).setVm vm₁).setTop { g with stack := rest } = (T.setVm vm₁).setTop { g with stack := rest } := by
    show ((T.setVm vm₁).setTop g).setTop _ = _
    rw [State.setTop_setTop]
  rw [eS, gr_fill_setTop]
  simp only [wp_bind', W.mark, W.pushRef, State.topJava?_setTop' _ XF.here.top, Option.some.injEq, exists_eq_left', State.setTop_setTop, State.heap_setTop]
  intro acts
  simp [jvm, XF.here.top]
  exact hrest
/-- two dimensions -/
theorem gr_stand2 (X : Stand p l e R s m args below meth c T locs cells slots) (hexec : p.tables.exec = Jvm.exec) {own nm : String} {index : Nat} {ty : FieldType}
    (hown : s.vm.findClass own = some m.cls) (hclink : (Cond.classLink own index nm).before args s = true)
    {cA c3 cc : ClassId} {kA kC : Class} {t0 : FieldType} (hname : s.vm.findClass nm = some cA) (hkA : s.vm.classes[cA]? = some kA) (hkindA : kA.kind = .array c3 t0) (href0 : t0.isReference = true) (hkC : s.vm.classes[c3]? = some kC) (hkindC : kC.kind = .array cc ty) (hb0 : componentBytes t0 ≤ 8) (hb2 : componentBytes ty ≤ 8)
    {g : JFrame} (hg : g.method = m) (hdg : decode c.code g.pc = .ok (.multianewarray index 2, 4)) {n k : Int32} {rest : List Value} (hstack : g.stack = .int k :: .int n :: rest)
    (hn : ¬ n < 0) (hk : ¬ k < 0) (hn6 : n.toNatClampNeg ≤ 64) (hk6 : k.toNatClampNeg ≤ 64)
    (hdf : fits ty (defaultValue ty) = true) (hdd : (defaultValue ty).isDefault = true)
    (hcells : cells + (1 + n.toNatClampNeg) ≤ R.cells) (hslots : slots + (n.toNatClampNeg + n.toNatClampNeg * k.toNatClampNeg) ≤ R.slots) :
    ∃ (vm₁ : Vm), s.WarmedH vm₁ ∧
      Stand p l e R s m args below meth c (Jvm.Free.Multi.fill (T.setVm vm₁) cA c3 n.toNatClampNeg k.toNatClampNeg (defaultValue ty) n.toNatClampNeg) locs (cells + 1 + n.toNatClampNeg) (slots + n.toNatClampNeg + n.toNatClampNeg * k.toNatClampNeg) ∧
      ∀ target, Steps p.tables e below ((Jvm.Free.Multi.fill (T.setVm vm₁) cA c3 n.toNatClampNeg k.toNatClampNeg (defaultValue ty) n.toNatClampNeg).setTop { g with pc := g.pc + 4, stack := .ref T.heap.size :: rest }) target →
        Steps p.tables e below (T.setTop g) target := by
  subst hg
  have hpl : e.platform.magicAccessors = ({} : Platform).magicAccessors := by rw [X.admits.platform]
  obtain ⟨c0, hfc0, hcl⟩ := Cond.classLink_spec hown hclink e.platform hpl
  cases hname.symm.trans hfc0
  obtain ⟨hg₁, hwarm₁, hready₁⟩ := State.classEntry (e := e) X.warmed hcl
  generalize T.vm.noted g.method.cls index (.cls cA) = vm₁ at hg₁ hwarm₁ hready₁
  have hal : s.vm.Alike vm₁ := hwarm₁.alike
  obtain ⟨kA₁, hkA₁, heA⟩ := hal.2.2 _ _ hkA
  obtain ⟨kC₁, hkC₁, heC⟩ := hal.2.2 _ _ hkC
  have hkindA₁ : kA₁.kind = .array c3 t0 := by rw [heA]; exact hkindA
  have hkindC₁ : kC₁.kind = .array cc ty := by rw [heC]; exact hkindC
  have X₁ := X.noted hwarm₁
  obtain ⟨hr1, hr2⟩ := X.roomAbove hcells hslots
  have XF := X₁.filled cA c3 n.toNatClampNeg k.toNatClampNeg (defaultValue ty) n.toNatClampNeg
  have XG := XF.dropFresh (fun x hx => by
    obtain ⟨j, -, rfl⟩ := List.mem_map.mp hx
    exact X.heapGrown)
  refine ⟨vm₁, hwarm₁, XG, fun target hrest => ?_⟩
  have hL := Launch.admits_arrayLengthLimit X.admits
  have hB := Launch.admits_maxHeapBytes X.admits
  have hm1 : n.toNatClampNeg * componentBytes t0 ≤ 64 * 8 := Nat.mul_le_mul hn6 hb0
  have hm2 : k.toNatClampNeg * componentBytes ty ≤ 64 * 8 := Nat.mul_le_mul hk6 hb2
  jvm_step X.here [hexec, hdg]
  simp only [multianewarray.sem, wp_bind', W.resolveClassAt_links (State.method?_setTop g X.here.top) hg₁]
  rw [W.popN, if_neg (by decide)]
  refine ⟨g, State.topJava?_setTop' (s := T.setVm vm₁) g X.here.top, [.int n, .int k], rest, rfl, hstack, ?_⟩
  simp only [List.mapM_cons, List.mapM_nil, wp_bind', wp_pure']
  refine Jvm.Free.Multi.wp_make2 (k := kA₁) (kc := kC₁) (t0 := t0) hkA₁ hkindA₁ href0 hkC₁ hkindC₁ hn hk (by rw [hL]; omega) (by rw [hB]; omega) (by rw [hL]; omega) (by rw [hB]; omega) hdf hdd (by show T.heap.size + 1 + _ ≤ _; omega) (by show T.slotsUsed + _ + _ ≤ _; omega) (fun d' acts' => ?_)
  have eS : ((T.setTop g).setVm vm₁).setTop { g with stack := rest } = (T.setVm vm₁).setTop { g with stack := rest } := by
    show ((T.setVm vm₁).setTop g).setTop _ = _
    rw [State.setTop_setTop]
  rw [eS, Jvm.Free.Multi.fill_setTop]
  simp only [wp_bind', W.mark, W.pushRef, State.topJava?_setTop' _ XF.here.top, Option.some.injEq, exists_eq_left', State.setTop_setTop, State.heap_setTop]
  intro acts
  simp [jvm, XF.here.top]
  exact hrest
end
