/-! THE THROWS OF THE CLASS: written by wip/gen/walk2.py -/
def xnm : List String := ["java/lang/RuntimeException", "java/lang/Exception"]
theorem xnm_ok : ∀ n ∈ xnm, Bundle.fit n = true := by decide +kernel
theorem xf_ArithmeticException : Bundle.fit "java/lang/ArithmeticException" = true := by decide +kernel
theorem xcs_ArithmeticException : (("java/lang/ArithmeticException", "java/lang/ArithmeticException") : String × String) ∈ lw_cs2 := by decide +kernel
theorem xf_IllegalArgumentException : Bundle.fit "java/lang/IllegalArgumentException" = true := by decide +kernel
theorem xcs_IllegalArgumentException : (("java/lang/IllegalArgumentException", "java/lang/IllegalArgumentException") : String × String) ∈ lw_cs2 := by decide +kernel
theorem xf_IllegalStateException : Bundle.fit "java/lang/IllegalStateException" = true := by decide +kernel
theorem xcs_IllegalStateException : (("java/lang/IllegalStateException", "java/lang/IllegalStateException") : String × String) ∈ lw_cs2 := by decide +kernel
theorem xf_IndexOutOfBoundsException : Bundle.fit "java/lang/IndexOutOfBoundsException" = true := by decide +kernel
theorem xcs_IndexOutOfBoundsException : (("java/lang/IndexOutOfBoundsException", "java/lang/IndexOutOfBoundsException") : String × String) ∈ lw_cs2 := by decide +kernel
theorem xf_UnsupportedOperationException : Bundle.fit "java/lang/UnsupportedOperationException" = true := by decide +kernel
theorem xcs_UnsupportedOperationException : (("java/lang/UnsupportedOperationException", "java/lang/UnsupportedOperationException") : String × String) ∈ lw_cs2 := by decide +kernel
theorem xf_NoSuchElementException : Bundle.fit "java/util/NoSuchElementException" = true := by decide +kernel
theorem xcs_NoSuchElementException : (("java/util/NoSuchElementException", "java/util/NoSuchElementException") : String × String) ∈ lw_cs2 := by decide +kernel
theorem xat_81 : (vx_atS "Linkwright" 81 "java/lang/IllegalStateException" xnm).all (fun w => (goodWord w && decide (w ∈ lw_tbl)) || decide (w = .castable "java/lang/IllegalStateException" "java/lang/IllegalStateException")) = true := by decide +kernel
theorem xgd_8100077 : ∀ w ∈ Cond.classLink "Linkwright" 77 "java/lang/IllegalStateException" :: Cond.initialized "java/lang/IllegalStateException" :: vx_atS "Linkwright" 81 "java/lang/IllegalStateException" xnm, vx_ot w = true := by decide +kernel
theorem xat_95 : (vx_atS "Linkwright" 95 "java/lang/IllegalArgumentException" xnm).all (fun w => (goodWord w && decide (w ∈ lw_tbl)) || decide (w = .castable "java/lang/IllegalArgumentException" "java/lang/IllegalArgumentException")) = true := by decide +kernel
theorem xgd_9500091 : ∀ w ∈ Cond.classLink "Linkwright" 91 "java/lang/IllegalArgumentException" :: Cond.initialized "java/lang/IllegalArgumentException" :: vx_atS "Linkwright" 95 "java/lang/IllegalArgumentException" xnm, vx_ot w = true := by decide +kernel
theorem xat_100 : (vx_atS "Linkwright" 100 "java/lang/UnsupportedOperationException" xnm).all (fun w => (goodWord w && decide (w ∈ lw_tbl)) || decide (w = .castable "java/lang/UnsupportedOperationException" "java/lang/UnsupportedOperationException")) = true := by decide +kernel
theorem xgd_10000096 : ∀ w ∈ Cond.classLink "Linkwright" 96 "java/lang/UnsupportedOperationException" :: Cond.initialized "java/lang/UnsupportedOperationException" :: vx_atS "Linkwright" 100 "java/lang/UnsupportedOperationException" xnm, vx_ot w = true := by decide +kernel
theorem xat_197 : (vx_atS "Linkwright" 197 "java/util/NoSuchElementException" xnm).all (fun w => (goodWord w && decide (w ∈ lw_tbl)) || decide (w = .castable "java/util/NoSuchElementException" "java/util/NoSuchElementException")) = true := by decide +kernel
theorem xgd_19700193 : ∀ w ∈ Cond.classLink "Linkwright" 193 "java/util/NoSuchElementException" :: Cond.initialized "java/util/NoSuchElementException" :: vx_atS "Linkwright" 197 "java/util/NoSuchElementException" xnm, vx_ot w = true := by decide +kernel
theorem xat_345 : (vx_atS "Linkwright" 345 "java/lang/ArithmeticException" xnm).all (fun w => (goodWord w && decide (w ∈ lw_tbl)) || decide (w = .castable "java/lang/ArithmeticException" "java/lang/ArithmeticException")) = true := by decide +kernel
theorem xgd_34500341 : ∀ w ∈ Cond.classLink "Linkwright" 341 "java/lang/ArithmeticException" :: Cond.initialized "java/lang/ArithmeticException" :: vx_atS "Linkwright" 345 "java/lang/ArithmeticException" xnm, vx_ot w = true := by decide +kernel
theorem xat_368 : (vx_atS "Linkwright" 368 "java/lang/IndexOutOfBoundsException" xnm).all (fun w => (goodWord w && decide (w ∈ lw_tbl)) || decide (w = .castable "java/lang/IndexOutOfBoundsException" "java/lang/IndexOutOfBoundsException")) = true := by decide +kernel
theorem xgd_36800364 : ∀ w ∈ Cond.classLink "Linkwright" 364 "java/lang/IndexOutOfBoundsException" :: Cond.initialized "java/lang/IndexOutOfBoundsException" :: vx_atS "Linkwright" 368 "java/lang/IndexOutOfBoundsException" xnm, vx_ot w = true := by decide +kernel
