/-! THE REFERENCE: is a link added -/
theorem t_setFI {A E : Nat → Nat} {ls : Nat → List Nat} {nl nc nd : Nat} {S S' : Hp} {D : Dt} {r i : Nat} {v : Int32} (h : Rep A E ls nl nc nd S D) (ha : al nl nc nd r) (hi : i < 576) (e : S' = S.setFI i (A r) v) : ∃ D', Rep A E ls nl nc nd S' D' ∧ D'.AI = D.AI ∧ D'.AJ = D.AJ ∧ (∀ i' r', ¬ (i' = i ∧ r' = r) → D'.FI i' r' = D.FI i' r') ∧ D'.FI i r = v := by
  exact ⟨D.setFI i r v, by rw [e]; exact set_FI h v ha hi, rfl, rfl, fun i' r' hr => dtFI_n hr, dtFI_s⟩
section MD9
variable {A E : Nat → Nat} {ls : Nat → List Nat} {nl nc nd : Nat} {S : Hp} {D : Dt} {G : Nat → Nat → Nat} {g : Nat → Nat}
end MD9
