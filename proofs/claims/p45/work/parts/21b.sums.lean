/-! SUMS: checksum, drivenShare, meanWorn, on both sides -/
section SU9
variable {A E : Nat → Nat} {ls : Nat → List Nat} {nl nc nd : Nat} {S : Hp} {D : Dt} {G : Nat → Nat → Nat}
theorem p_drivenShareC {Φ : Hp → UInt32 → Prop} {Ψ : Hp → String → Prop} {ns : Nat} (h : Rep A E ls nl nc nd S D) (hG : GrOK ns nl G) (hns : D.FI 461 0 = nI ns) (hdr : DrA G nl 14 5 D) (kt : ns = 0 → Ψ S "java/lang/ArithmeticException") (kk : 0 < ns → Φ S (FP.fdiv (FP.i2f (nI (cnt ns (fun s => (drv G nl s).isSome)))) (FP.i2f (nI ns)))) : wX7_drivenShare S (A 0) Φ Ψ := by
  have h14 := hG.1
  have vns : S.FI 461 (A 0) = nI ns := (rep_FI h 461 (by decide) c_al).trans hns
  unfold wX7_drivenShare wX7_drivenShare_b0
  rw [vns]
  refine ⟨c_is h, ?_⟩
  by_cases c : ns = 0
  · exact fi_p (by rw [c]; rfl) (kt c)
  · refine fi_n (fun q => c ((nI_iff (b := 0) (by omega) (by decide)).mp q)) (p_countDriven h hG hns hdr ⟨c_is h, ?_⟩)
    rw [vns]
    exact ⟨(shr_ok ns (by omega) _ (cnt_le _ _) (by omega)).1, kk (by omega)⟩
end SU9
