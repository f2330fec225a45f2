/-! SHAFT, on both sides -/
section SH9
variable {A E : Nat → Nat} {ls : Nat → List Nat} {nl nc nd : Nat} {S : Hp} {D : Dt} {G : Nat → Nat → Nat}
theorem p_shaftC {Φ : Hp → Int32 → Prop} {Ψ : Hp → String → Prop} {ns : Nat} (h : Rep A E ls nl nc nd S D) (hns : D.FI 461 0 = nI ns) (h14 : ns ≤ 14) (kt : ¬ ns < 14 → Ψ S "java/lang/IllegalStateException")
    (kk : ns < 14 → ∀ S' D', Rep A E ls nl nc nd S' D' → SamG (fun i r => i = 461 ∧ r = 0) (fun _ => False) (fun _ => False) D D' → D'.FI 461 0 = nI (ns + 1) → Φ S' (nI ns)) : wX7_shaft S (A 0) Φ Ψ := by
  have v : S.FI 461 (A 0) = nI ns := by
    rw [rep_FI h 461 (by decide) c_al]
    exact hns
  unfold wX7_shaft wX7_shaft_b0
  rw [v]
  refine ⟨c_is h, ?_⟩
  by_cases c : ns < 14
  · refine if_p (nI_lt (b := 14) c (by decide)) (fun S3 e3 => ?_)
    rw [← nI_succ] at e3
    obtain ⟨D3, r3, u3, j3, o3, f3⟩ := t_setFI (r := 0) (i := 461) h c_al (by decide) e3
    have v3 : S3.FI 461 (A 0) = nI (ns + 1) := by
      rw [rep_FI r3 461 (by decide) c_al]
      exact f3
    rw [v3, nI_pred]
    exact kk c S3 D3 r3 ⟨fun i r hr => o3 i r hr, fun r _ => by rw [u3], fun r _ => by rw [j3]⟩ f3
  · exact if_n (nI_nlt (a := ns) (b := 14) (by omega) (by omega)) (kt c)
end SH9
