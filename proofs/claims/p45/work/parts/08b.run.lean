/-! FROM THE PREDICATE TO THE RUN -/
theorem law_run {p : Program} {l : Launch} {e : Env} {s : State} {m : MethodId} {below : List Frame} {meth : Method} {c : Code} {b L : Nat} {xs : Nat → Int32} {Q : State → Prop}
    (hx : p.tables.exec = Jvm.exec) (hb : c.code = code) (hr : meth.sig.returnType = ret) (hml : c.maxLocals = 37) (hown : s.vm.findClass "LinkwrightLaw" = some m.cls) (hts : ∀ w ∈ lw_tbl, w.before #[Value.ref b] s = true) (hX : va_X b L xs s s.heap) (hbl : b < s.heap.size) (hlocks : meth.locks = false) (hgv : ∀ w ∈ gvL, w.before #[Value.ref b] s = true) (hl9 : l.stackTraces = false)
    (hw : ∀ S : Hp, S.L = [] → wL_law S xs L)
    (hend : ∀ (pc : Nat) (H : Heap) (locs : List Loc) (ls : Array Slot) (cells slots : Nat), decode code pc = .ok (.ireturn, 1) → va_S (Ab s.heap.size) s.heap H locs → cells ≤ 668972 → slots ≤ 7086985 → W p l e room_1 s m #[Value.ref b] below meth c H locs cells slots Q (F0 m pc ls [.int 1])) :
    W p l e room_1 s m #[Value.ref b] below meth c s.heap [] 0 0 Q (entryFrame m ([Value.ref b] : List Value).toArray 37) := by
  obtain ⟨D, cy, hK⟩ := st_K hts
  obtain ⟨t0, mi, hE⟩ := st_ev D cy hX hbl hts hgv
  have C0 : Mx p s m c code 37 #[Value.ref b] yL_law.cls (D, cy, s.heap.size, t0, mi, b, L, xs) := ⟨hx, hb, hml, hown, fun w h => hts w (List.mem_filter.mp h).1, hK, hE, Nat.le_refl _⟩
  have Y : My meth (some .boolean) := ⟨hr, hlocks⟩
  obtain ⟨S, hSL, hS0, hS1⟩ : ∃ S : Hp, S.L = [] ∧ S.T 0 = t0 ∧ S.T 1 = mi := ⟨Hp.mk [] (fun _ => 0) (fun _ _ => 0) (fun _ _ => 0) (fun _ _ => none) (fun _ => 0) (fun _ _ => 0) (fun _ _ => 0) (fun _ _ => 0) (fun _ _ => none) (fun k => if k = 0 then t0 else mi), rfl, rfl, rfl⟩
  have hO : Ok (D, cy, s.heap.size, t0, mi, b, L, xs) S s.heap := by
    refine ⟨fun k q hq => ?_, ⟨fun i j p q hi => ?_, fun k q hq => ?_⟩, hS0, hS1⟩
    · unfold plW va_pl at hq
      rw [hSL] at hq
      simp at hq
    · unfold plW va_pl at hi
      rw [hSL] at hi
      simp at hi
    · unfold plW va_pl at hq
      rw [hSL] at hq
      simp at hq
  have hS : va_S (Ab s.heap.size) s.heap s.heap [] := va_S.rf
  have hl := lv_entry ([.ref b]) (n := 37) (Nat.le_of_ble_eq_true rfl)
  rw [lg_entry_eq]
  generalize (lg_sl ([.ref b]) ++ List.replicate (37 - (lg_sl ([.ref b])).length) Slot.unset).toArray = ls at hl ⊢
  have hl : lv_has ls 37 [(0, .ref b)] := hl
  exact bL_law_b0 C0 Y hl9 hend S _ _ _ 0 0 (hw S hSL) hO hS hl (by decide) (by decide)
