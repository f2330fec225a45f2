/-! THE THROWS OF THE CLASS: written by wip/gen/walk2.py -/
def xnm : List String := ["java/lang/RuntimeException", "java/lang/Exception"]
theorem xnm_ok : ∀ n ∈ xnm, Bundle.fit n = true := by decide +kernel
theorem xf_ArithmeticException : Bundle.fit "java/lang/ArithmeticException" = true := by decide +kernel
theorem xf_IllegalArgumentException : Bundle.fit "java/lang/IllegalArgumentException" = true := by decide +kernel
theorem xf_IllegalStateException : Bundle.fit "java/lang/IllegalStateException" = true := by decide +kernel
theorem xf_IndexOutOfBoundsException : Bundle.fit "java/lang/IndexOutOfBoundsException" = true := by decide +kernel
theorem xf_UnsupportedOperationException : Bundle.fit "java/lang/UnsupportedOperationException" = true := by decide +kernel
theorem xf_NoSuchElementException : Bundle.fit "java/util/NoSuchElementException" = true := by decide +kernel
theorem xat_81 : (vx_atS "Linkwright" 81 "java/lang/IllegalStateException" xnm).all (fun w => (goodWord w && decide (w ∈ lw_tbl)) || decide (w ∈ lw_oth)) = true := by decide +kernel
theorem xgd_8100077 : ∀ w ∈ Cond.classLink "Linkwright" 77 "java/lang/IllegalStateException" :: Cond.initialized "java/lang/IllegalStateException" :: vx_atS "Linkwright" 81 "java/lang/IllegalStateException" xnm, vx_ot w = true := by decide +kernel
theorem xat_95 : (vx_atS "Linkwright" 95 "java/lang/IllegalArgumentException" xnm).all (fun w => (goodWord w && decide (w ∈ lw_tbl)) || decide (w ∈ lw_oth)) = true := by decide +kernel
theorem xgd_9500091 : ∀ w ∈ Cond.classLink "Linkwright" 91 "java/lang/IllegalArgumentException" :: Cond.initialized "java/lang/IllegalArgumentException" :: vx_atS "Linkwright" 95 "java/lang/IllegalArgumentException" xnm, vx_ot w = true := by decide +kernel
theorem xat_100 : (vx_atS "Linkwright" 100 "java/lang/UnsupportedOperationException" xnm).all (fun w => (goodWord w && decide (w ∈ lw_tbl)) || decide (w ∈ lw_oth)) = true := by decide +kernel
theorem xgd_10000096 : ∀ w ∈ Cond.classLink "Linkwright" 96 "java/lang/UnsupportedOperationException" :: Cond.initialized "java/lang/UnsupportedOperationException" :: vx_atS "Linkwright" 100 "java/lang/UnsupportedOperationException" xnm, vx_ot w = true := by decide +kernel
theorem xat_345 : (vx_atS "Linkwright" 345 "java/lang/ArithmeticException" xnm).all (fun w => (goodWord w && decide (w ∈ lw_tbl)) || decide (w ∈ lw_oth)) = true := by decide +kernel
theorem xgd_34500341 : ∀ w ∈ Cond.classLink "Linkwright" 341 "java/lang/ArithmeticException" :: Cond.initialized "java/lang/ArithmeticException" :: vx_atS "Linkwright" 345 "java/lang/ArithmeticException" xnm, vx_ot w = true := by decide +kernel
theorem xat_368 : (vx_atS "Linkwright" 368 "java/lang/IndexOutOfBoundsException" xnm).all (fun w => (goodWord w && decide (w ∈ lw_tbl)) || decide (w ∈ lw_oth)) = true := by decide +kernel
theorem xgd_36800364 : ∀ w ∈ Cond.classLink "Linkwright" 364 "java/lang/IndexOutOfBoundsException" :: Cond.initialized "java/lang/IndexOutOfBoundsException" :: vx_atS "Linkwright" 368 "java/lang/IndexOutOfBoundsException" xnm, vx_ot w = true := by decide +kernel
section PNS
variable {p : Program} {l : Launch} {e : Env} {R : Room} {s : State} {m : MethodId} {args : Array Value} {below : List Frame} {meth : Method} {c : Code} {H : Heap} {locs : List Loc} {cells slots : Nat}
variable {cc : ByteArray} {pc : Nat} {ls : Array Slot} {rest : List Value} {G : Gw} {S : Hp} {nL : Nat} {own : String} {P : Option Value → Hp → Prop} {Ψ : Hp → String → Prop} {mc ms : Nat}
theorem t_NS {text : String} {ik is ic : Nat} (C0 : Mx p s m c cc nL args own G) (hl : l.stackTraces = false) (hlocks : meth.locks = false) (hx9 : ∀ x ∈ c.exceptionTable.toList, False) (hO : Ok G S H) (hS : va_S (Ab G.b) s.heap H locs)
    (tk : Cond.classLink own ik "java/util/NoSuchElementException" ∈ lw_good) (ti : Cond.initialized "java/util/NoSuchElementException" ∈ lw_good) (hstr : (own, is, text) ∈ strs)
    (hsize : ls.size = nL) (hΨ : Ψ S "java/util/NoSuchElementException") (d0 : decode cc pc = .ok (.new ik, 3)) (d3 : decode cc (pc + 3) = .ok (.dup, 1)) (d4 : decode cc (pc + 4) = .ok (.ldc is, 2)) (d6 : decode cc (pc + 6) = .ok (.invokespecial ic, 3)) (d9 : decode cc (pc + 9) = .ok (.athrow, 1))
    (hRframes : 5 < R.frames) (hRlocals : (rest.map fun v => v.category).sum + 82 ≤ R.locals) (hRcells : cells + 1 ≤ R.cells) (hRslots : slots + 6 ≤ R.slots) (hc : cells + 1 ≤ mc) (hs : slots + 6 ≤ ms) :
    W p l e R s m args below meth c H locs cells slots (vx_MQ below (gQ G P) (gX G Ψ) args s mc ms (Ab G.b)) (F0 m pc ls rest) := sorry
theorem t_NW {text : String} {ik is ic : Nat} (C0 : Mx p s m c cc nL args own G) (hl : l.stackTraces = false) (hlocks : meth.locks = false) (hx9 : ∀ x ∈ c.exceptionTable.toList, False) (hO : Ok G S H) (hS : va_S (Ab G.b) s.heap H locs)
    (tk : Cond.classLink own ik "java/util/NoSuchElementException" ∈ lw_good) (ti : Cond.initialized "java/util/NoSuchElementException" ∈ lw_good) (hstr : (own, is, text) ∈ strs)
    (hsize : ls.size = nL) (hΨ : Ψ S "java/util/NoSuchElementException") (d0 : decode cc pc = .ok (.new ik, 3)) (d3 : decode cc (pc + 3) = .ok (.dup, 1)) (d4 : decode cc (pc + 4) = .ok (.ldc_w is, 3)) (d7 : decode cc (pc + 7) = .ok (.invokespecial ic, 3)) (d10 : decode cc (pc + 10) = .ok (.athrow, 1))
    (hRframes : 5 < R.frames) (hRlocals : (rest.map fun v => v.category).sum + 82 ≤ R.locals) (hRcells : cells + 1 ≤ R.cells) (hRslots : slots + 6 ≤ R.slots) (hc : cells + 1 ≤ mc) (hs : slots + 6 ≤ ms) :
    W p l e R s m args below meth c H locs cells slots (vx_MQ below (gQ G P) (gX G Ψ) args s mc ms (Ab G.b)) (F0 m pc ls rest) := sorry
end PNS
