/-! CAMS AND DRUMS COME TO LIFE -/
/-- what a fresh object leaves as it was, and a reference set -/
def Kp2 (S S' : Hp) : Prop := (∀ b k, isA S b k → isA S' b k) ∧ ∀ b, b ∈ S.L → S'.N b = S.N b ∧ (∀ i, S'.FI i b = S.FI i b) ∧ (S'.AI b = S.AI b) ∧ b ∈ S'.L
theorem Kp2.tr {S S' S'' : Hp} (h : Kp2 S S') (h' : Kp2 S' S'') : Kp2 S S'' := ⟨fun b k hb => h'.1 b k (h.1 b k hb), fun b hb => by
  obtain ⟨a1, a2, a3, a4⟩ := h.2 b hb
  obtain ⟨b1, b2, b3, b4⟩ := h'.2 b a4
  exact ⟨b1.trans a1, fun i => (b2 i).trans (a2 i), b3.trans a3, b4⟩⟩
section NO9
variable {A A' E : Nat → Nat} {ls : Nat → List Nat} {nl nc nd : Nat} {S : Hp} {D : Dt}
/-- several numbers are given out at once -/
theorem swap_L (hA : ∀ r r', A r = A r' → r = r') : ∀ l : List (Nat × Nat), (∀ x, x ∈ l → ∀ y, y ∈ l → (x.1 = y.1 ↔ x.2 = y.2)) → ∃ A' : Nat → Nat, (∀ r r', A' r = A' r' → r = r') ∧ (∀ x, x ∈ l → A' x.1 = x.2) ∧ ∀ r, (∀ x, x ∈ l → r ≠ x.1 ∧ A r ≠ x.2) → A' r = A r
  | [], _ => ⟨A, hA, fun x hx => absurd hx (by simp), fun r _ => rfl⟩
  | z :: l, hl => by
    obtain ⟨A1, i1, i2, i3⟩ := swap_L hA l (fun x hx y hy => hl x (List.mem_cons_of_mem _ hx) y (List.mem_cons_of_mem _ hy))
    obtain ⟨A2, j1, j2, j3⟩ := swap_A A1 z.1 z.2 i1
    refine ⟨A2, j1, fun x hx => ?_, fun r hr => ?_⟩
    · by_cases c : x.1 = z.1
      · have := (hl x hx z (List.mem_cons_self)).mp c
        rw [c, j2, this]
      · rcases List.mem_cons.mp hx with e | hx'
        · rw [e] at c
          exact absurd rfl c
        · rw [j3 x.1 c, i2 x hx']
          rw [i2 x hx']
          exact fun q => c ((hl x hx z (List.mem_cons_self)).mpr q)
    · have hz := hr z (List.mem_cons_self)
      have e1 : A1 r = A r := i3 r (fun x hx => hr x (List.mem_cons_of_mem _ hx))
      rw [j3 r hz.1 (by rw [e1]; exact hz.2), e1]
end NO9
