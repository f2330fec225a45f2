/-! THE REFERENCE: ratio, slackAt, slackOf -/
section MV9
variable {A E : Nat → Nat} {ls : Nat → List Nat} {nl nc nd : Nat} {S : Hp} {D : Dt} {G : Nat → Nat → Nat}
theorem Thr.T {c : Int32} {D D' D'' : Dt} (h : Thr c D D') (h' : SamT D' D'') : Thr c D D'' := ⟨⟨fun i r hr => by rw [h'.1]; exact h.1.1 i r hr, fun r hr => by rw [h'.2.1]; exact h.1.2.1 r hr, fun r hr => by rw [h'.2.2]; exact h.1.2.2 r hr⟩, by rw [h'.1]; exact h.2⟩
end MV9
