/-! THE THROWS OF THE CLASS: written by wip/gen/walk2.py -/
def xnm : List String := ["java/lang/RuntimeException", "java/lang/Exception"]
theorem xnm_ok : ∀ n ∈ xnm, Bundle.fit n = true := by decide +kernel
theorem xf_ArithmeticException : Bundle.fit "java/lang/ArithmeticException" = true := by decide +kernel
theorem xf_IllegalArgumentException : Bundle.fit "java/lang/IllegalArgumentException" = true := by decide +kernel
theorem xf_IllegalStateException : Bundle.fit "java/lang/IllegalStateException" = true := by decide +kernel
theorem xf_IndexOutOfBoundsException : Bundle.fit "java/lang/IndexOutOfBoundsException" = true := by decide +kernel
theorem xf_UnsupportedOperationException : Bundle.fit "java/lang/UnsupportedOperationException" = true := by decide +kernel
theorem xf_NoSuchElementException : Bundle.fit "java/util/NoSuchElementException" = true := by decide +kernel
theorem xat_81 : (vx_atS "Linkwright" 81 "java/lang/IllegalStateException" xnm).all (fun w => (goodWord w && decide (w ∈ lw_tbl)) || decide (w ∈ lw_oth)) = true := by decide +kernel
theorem xgd_8100077 : ∀ w ∈ Cond.classLink "Linkwright" 77 "java/lang/IllegalStateException" :: Cond.initialized "java/lang/IllegalStateException" :: vx_atS "Linkwright" 81 "java/lang/IllegalStateException" xnm, vx_ot w = true := by decide +kernel
theorem xat_95 : (vx_atS "Linkwright" 95 "java/lang/IllegalArgumentException" xnm).all (fun w => (goodWord w && decide (w ∈ lw_tbl)) || decide (w ∈ lw_oth)) = true := by decide +kernel
theorem xgd_9500091 : ∀ w ∈ Cond.classLink "Linkwright" 91 "java/lang/IllegalArgumentException" :: Cond.initialized "java/lang/IllegalArgumentException" :: vx_atS "Linkwright" 95 "java/lang/IllegalArgumentException" xnm, vx_ot w = true := by decide +kernel
theorem xat_100 : (vx_atS "Linkwright" 100 "java/lang/UnsupportedOperationException" xnm).all (fun w => (goodWord w && decide (w ∈ lw_tbl)) || decide (w ∈ lw_oth)) = true := by decide +kernel
theorem xgd_10000096 : ∀ w ∈ Cond.classLink "Linkwright" 96 "java/lang/UnsupportedOperationException" :: Cond.initialized "java/lang/UnsupportedOperationException" :: vx_atS "Linkwright" 100 "java/lang/UnsupportedOperationException" xnm, vx_ot w = true := by decide +kernel
theorem xat_345 : (vx_atS "Linkwright" 345 "java/lang/ArithmeticException" xnm).all (fun w => (goodWord w && decide (w ∈ lw_tbl)) || decide (w ∈ lw_oth)) = true := by decide +kernel
theorem xgd_34500341 : ∀ w ∈ Cond.classLink "Linkwright" 341 "java/lang/ArithmeticException" :: Cond.initialized "java/lang/ArithmeticException" :: vx_atS "Linkwright" 345 "java/lang/ArithmeticException" xnm, vx_ot w = true := by decide +kernel
theorem xat_368 : (vx_atS "Linkwright" 368 "java/lang/IndexOutOfBoundsException" xnm).all (fun w => (goodWord w && decide (w ∈ lw_tbl)) || decide (w ∈ lw_oth)) = true := by decide +kernel
theorem xgd_36800364 : ∀ w ∈ Cond.classLink "Linkwright" 364 "java/lang/IndexOutOfBoundsException" :: Cond.initialized "java/lang/IndexOutOfBoundsException" :: vx_atS "Linkwright" 368 "java/lang/IndexOutOfBoundsException" xnm, vx_ot w = true := by decide +kernel
abbrev nsX : String := "java/util/NoSuchElementException"
theorem ns_0 : decode prog_32_method_4_code 0 = .ok (.aload_n 0, 1) := by decide +kernel
theorem ns_1 : decode prog_32_method_4_code 1 = .ok (.aload_n 1, 1) := by decide +kernel
theorem ns_2 : decode prog_32_method_4_code 2 = .ok (.invokespecial 13, 3) := by decide +kernel
theorem ns_5 : decode prog_32_method_4_code 5 = .ok (.return_, 1) := by decide +kernel
theorem ns_at : ((Bundle.ownAtomsX "Linkwright" 197 nsX 13 prog_32_method_4_code xnm).filter vx_no).all (fun w => (goodWord w && decide (w ∈ lw_tbl)) || decide (w ∈ lw_oth)) = true := by decide +kernel
theorem ns_gd : ∀ w ∈ Cond.classLink "Linkwright" 193 nsX :: Cond.initialized nsX :: (Bundle.ownAtomsX "Linkwright" 197 nsX 13 prog_32_method_4_code xnm).filter vx_no, vx_ot w = true := by decide +kernel
section PNS
variable {p : Program} {l : Launch} {e : Env} {R : Room} {s : State} {m : MethodId} {args : Array Value} {below : List Frame} {meth : Method} {c : Code} {H : Heap} {locs : List Loc} {cells slots : Nat}
variable {cc : ByteArray} {pc : Nat} {ls : Array Slot} {rest : List Value} {G : Gw} {S : Hp} {nL : Nat} {P : Option Value → Hp → Prop} {Ψ : Hp → String → Prop} {mc ms : Nat}
theorem ns_all (hts : ∀ w ∈ lw_good, w.before args s = true) (hE : ∀ w ∈ lw_oth, va_Nw w s) : ∀ w ∈ (Bundle.ownAtomsX "Linkwright" 197 nsX 13 prog_32_method_4_code xnm).filter vx_no, w.before args s = true := by
  intro w hw
  have h1 := List.all_eq_true.mp ns_at w hw
  simp only [Bool.or_eq_true, Bool.and_eq_true, decide_eq_true_eq] at h1
  rcases h1 with ⟨h1, h2⟩ | h1
  · exact hts w (List.mem_filter.mpr ⟨h2, h1⟩)
  · exact va_Nw.use (oth_onTables h1) (hE w h1)
theorem t_N {text : String} {is w : Nat} (C0 : Mx p s m c cc nL args "Linkwright" G) (hl : l.stackTraces = false) (hlocks : meth.locks = false) (hx9 : ∀ x ∈ c.exceptionTable.toList, False) (hO : Ok G S H) (hS : va_S (Ab G.b) s.heap H locs)
    (tk : Cond.classLink "Linkwright" 193 nsX ∈ lw_good) (ti : Cond.initialized nsX ∈ lw_good) (hstr : ("Linkwright", is, text) ∈ strs)
    (hsize : ls.size = nL) (hΨ : Ψ S nsX) (d0 : decode cc pc = .ok (.new 193, 3)) (d3 : decode cc (pc + 3) = .ok (.dup, 1)) (d4 : (decode cc (pc + 4) = .ok (.ldc is, 2) ∧ w = 2) ∨ (decode cc (pc + 4) = .ok (.ldc_w is, 3) ∧ w = 3)) (d6 : decode cc (pc + 4 + w) = .ok (.invokespecial 197, 3)) (d9 : decode cc (pc + 4 + w + 3) = .ok (.athrow, 1))
    (hRframes : 5 < R.frames) (hRlocals : (rest.map fun v => v.category).sum + 82 ≤ R.locals) (hRcells : cells + 1 ≤ R.cells) (hRslots : slots + 6 ≤ R.slots) (hc : cells + 1 ≤ mc) (hs : slots + 6 ≤ ms) :
    W p l e R s m args below meth c H locs cells slots (vx_MQ below (gQ G P) (gX G Ψ) args s mc ms (Ab G.b)) (F0 m pc ls rest) := by
  obtain ⟨hx, hb, hml, hown, hts, hK, hE, -⟩ := id C0
  obtain ⟨sa, hsa⟩ := hE.2.2.2.2.1 _ hstr
  refine ns_throw (names := xnm) hx hb hl ns_0 ns_1 ns_2 ns_5 hown xf_NoSuchElementException xnm_ok (hts _ tk) (hts _ ti) hsa (ns_all hts hE.2.2.2.2.2.2.2.2.1) ns_gd hE.2.2.1 hE.2.2.2.1 hS (hsize.trans hml.symm) d0 d3 d4 d6 d9 (fun x hx => (hx9 x hx).elim) hRframes hRlocals hRcells hRslots hlocks (fun t hvm hz hk => ?_) hS.2.2 hc hs
  refine ⟨S, hΨ, ⟨hO.1.kept (fun k q hq => hk q.1 ((hO.1 k q hq).lt)), hO.2⟩, Nat.le_trans hS.1 hz, fun q h1 h2 => ?_⟩
  rw [hk q (Nat.lt_of_lt_of_le h1 hS.1)]
  exact hS.2.1 q h1 h2
theorem t_NS {text : String} {is : Nat} (C0 : Mx p s m c cc nL args "Linkwright" G) (hl : l.stackTraces = false) (hlocks : meth.locks = false) (hx9 : ∀ x ∈ c.exceptionTable.toList, False) (hO : Ok G S H) (hS : va_S (Ab G.b) s.heap H locs)
    (tk : Cond.classLink "Linkwright" 193 nsX ∈ lw_good) (ti : Cond.initialized nsX ∈ lw_good) (hstr : ("Linkwright", is, text) ∈ strs)
    (hsize : ls.size = nL) (hΨ : Ψ S nsX) (d0 : decode cc pc = .ok (.new 193, 3)) (d3 : decode cc (pc + 3) = .ok (.dup, 1)) (d4 : decode cc (pc + 4) = .ok (.ldc is, 2)) (d6 : decode cc (pc + 6) = .ok (.invokespecial 197, 3)) (d9 : decode cc (pc + 9) = .ok (.athrow, 1))
    (hRframes : 5 < R.frames) (hRlocals : (rest.map fun v => v.category).sum + 82 ≤ R.locals) (hRcells : cells + 1 ≤ R.cells) (hRslots : slots + 6 ≤ R.slots) (hc : cells + 1 ≤ mc) (hs : slots + 6 ≤ ms) :
    W p l e R s m args below meth c H locs cells slots (vx_MQ below (gQ G P) (gX G Ψ) args s mc ms (Ab G.b)) (F0 m pc ls rest) :=
  t_N (w := 2) C0 hl hlocks hx9 hO hS tk ti hstr hsize hΨ d0 d3 (Or.inl ⟨d4, rfl⟩) d6 d9 hRframes hRlocals hRcells hRslots hc hs
theorem t_NW {text : String} {is : Nat} (C0 : Mx p s m c cc nL args "Linkwright" G) (hl : l.stackTraces = false) (hlocks : meth.locks = false) (hx9 : ∀ x ∈ c.exceptionTable.toList, False) (hO : Ok G S H) (hS : va_S (Ab G.b) s.heap H locs)
    (tk : Cond.classLink "Linkwright" 193 nsX ∈ lw_good) (ti : Cond.initialized nsX ∈ lw_good) (hstr : ("Linkwright", is, text) ∈ strs)
    (hsize : ls.size = nL) (hΨ : Ψ S nsX) (d0 : decode cc pc = .ok (.new 193, 3)) (d3 : decode cc (pc + 3) = .ok (.dup, 1)) (d4 : decode cc (pc + 4) = .ok (.ldc_w is, 3)) (d7 : decode cc (pc + 7) = .ok (.invokespecial 197, 3)) (d10 : decode cc (pc + 10) = .ok (.athrow, 1))
    (hRframes : 5 < R.frames) (hRlocals : (rest.map fun v => v.category).sum + 82 ≤ R.locals) (hRcells : cells + 1 ≤ R.cells) (hRslots : slots + 6 ≤ R.slots) (hc : cells + 1 ≤ mc) (hs : slots + 6 ≤ ms) :
    W p l e R s m args below meth c H locs cells slots (vx_MQ below (gQ G P) (gX G Ψ) args s mc ms (Ab G.b)) (F0 m pc ls rest) :=
  t_N (w := 3) C0 hl hlocks hx9 hO hS tk ti hstr hsize hΨ d0 d3 (Or.inr ⟨d4, rfl⟩) d7 d10 hRframes hRlocals hRcells hRslots hc hs
end PNS
