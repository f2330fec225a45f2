/-! NEW OBJECTS OF THE CLASS -/
def Dt.put (D : Dt) (r0 : Nat) (S : Hp) (q : Nat) : Dt := Dt.mk (fun i r => if r = r0 then S.FI i q else D.FI i r) (fun i r => if r = r0 then S.FJ i q else D.FJ i r) (fun r i => if r = r0 then S.AI q i else D.AI r i) (fun r i => if r = r0 then S.AJ q i else D.AJ r i)
section AL9
variable {A A' E : Nat → Nat} {ls : Nat → List Nat} {nl nc nd : Nat} {S : Hp} {D : Dt}
theorem put_FI {r0 q i r : Nat} (h : r ≠ r0) : (D.put r0 S q).FI i r = D.FI i r := if_neg h
theorem put_FIs {r0 q i : Nat} : (D.put r0 S q).FI i r0 = S.FI i q := if_pos rfl
theorem put_AI {r0 q r : Nat} (h : r ≠ r0) : (D.put r0 S q).AI r = D.AI r := funext fun _ => if_neg h
theorem put_AJr {r0 q r : Nat} (h : r ≠ r0) : (D.put r0 S q).AJ r = D.AJ r := funext fun _ => if_neg h
/-- the numbers may be given anew where nothing is alive -/
theorem rep_re (h : Rep A E ls nl nc nd S D) (hi : ∀ r r', A' r = A' r' → r = r') (he : ∀ r, al nl nc nd r → A' r = A r) : Rep A' E ls nl nc nd S D := by
  obtain ⟨⟨h1, h2, h3, h4, h5, h6, h7, h8, h9⟩, hD⟩ := h
  refine ⟨⟨hi, fun r hr => by rw [he r hr]; exact h2 r hr, fun x hx => ?_, trivial, trivial, trivial, trivial, fun j hj => ?_, h9⟩, fun r hr => by rw [he r hr]; exact hD r hr⟩
  · have hs : ∀ x ∈ rfT, sdr x.2.1 = true ∧ sdr x.2.2 = true := by decide
    rw [he _ (al_s (hs x hx).1), he _ (al_s (hs x hx).2)]
    exact h3 x hx
  · have hs : ∀ j, j < 4 → sdr (1 + j) = true := by decide
    rw [he _ (al_s (hs j hj))]
    exact h8 j hj
theorem sdr_400 {r : Nat} (h : 400 ≤ r) : sdr r = false := by
  unfold sdr
  simp only [Bool.or_eq_false_iff, Bool.and_eq_false_iff, decide_eq_false_iff_not, beq_eq_false_iff_ne]
  omega
theorem al_400 {r : Nat} (h : al nl nc nd r) (h4 : 400 ≤ r) : (400 ≤ r ∧ r < 400 + nl) ∨ (500 ≤ r ∧ r < 500 + nc) ∨ (600 ≤ r ∧ r < 600 + 3 * nd) := by
  rcases h with h | h
  · rw [sdr_400 h4] at h
    exact absurd h (by decide)
  · exact h
/-- a link comes to life -/
theorem rep_addl (h : Rep A E ls nl nc nd S D) (hnl : nl < 99) {q : Nat} (hq : isA S q 5) (hN : S.N q = 0) (hoff : off A nl nc nd q) : ∃ A', (∀ r, al nl nc nd r → A' r = A r) ∧ A' (400 + nl) = q ∧ Rep A' E ls (nl + 1) nc nd S (D.put (400 + nl) S q) := by
  obtain ⟨A', i1, i2, i3⟩ := swap_A A (400 + nl) q h.1.1
  have hne : ∀ r, al nl nc nd r → r ≠ 400 + nl := fun r hr e => by
    have := al_400 hr (by omega)
    omega
  have he : ∀ r, al nl nc nd r → A' r = A r := fun r hr => i3 r (hne r hr) (hoff r hr)
  have h' := rep_re h i1 he
  refine ⟨A', he, i2, ?_⟩
  obtain ⟨⟨h1, h2, h3, h4, h5, h6, h7, h8, h9⟩, hD⟩ := h'
  have cs : ∀ r, al (nl + 1) nc nd r → r = 400 + nl ∨ al nl nc nd r := fun r hr => by
    by_cases c : r = 400 + nl
    · exact Or.inl c
    · refine Or.inr ?_
      rcases hr with g | g | g | g
      · exact Or.inl g
      · exact Or.inr (Or.inl ⟨g.1, by omega⟩)
      · exact Or.inr (Or.inr (Or.inl g))
      · exact Or.inr (Or.inr (Or.inr g))
  have k5 : kdr (400 + nl) = 5 := by
    unfold kdr
    repeat rw [if_neg (by omega)]
    rw [if_pos (by omega)]
  have n0 : ndr (400 + nl) = 0 := by
    unfold ndr
    repeat rw [if_neg (by omega)]
    rw [if_pos (by omega)]
  refine ⟨⟨h1, fun r hr => ?_, h3, h4, h5, h6, h7, h8, h9⟩, fun r hr => ?_⟩
  · rcases cs r hr with c | c
    · rw [c, i2, k5, n0]
      exact ⟨hq, hN⟩
    · exact h2 r c
  · rcases cs r hr with c | c
    · subst c
      rw [i2]
      exact ⟨fun i _ => (if_pos rfl).symm, fun i => (if_pos rfl).symm, fun i => (if_pos rfl).symm, fun i => (if_pos rfl).symm⟩
    · obtain ⟨g1, g2, g3, g4⟩ := hD r c
      have hn := hne r c
      exact ⟨fun i hi => (g1 i hi).trans (if_neg hn).symm, fun i => (g2 i).trans (if_neg hn).symm, fun i => (g3 i).trans (if_neg hn).symm, fun i => (g4 i).trans (if_neg hn).symm⟩
/-- what is not kept any more is nobody's -/
theorem rep_down {nl' nc' nd' : Nat} (h : Rep A E ls nl' nc' nd' S D) (h1 : nl ≤ nl') (h2 : nc ≤ nc') (h3 : nd ≤ nd') : Rep A E ls nl nc nd S D := by
  obtain ⟨⟨g1, g2, g3, g4, g5, g6, g7, g8, g9⟩, hD⟩ := h
  exact ⟨⟨g1, fun r hr => g2 r (al_sub h1 h2 h3 hr), g3, g4, g5, g6, g7, g8, g9⟩, fun r hr => hD r (al_sub h1 h2 h3 hr)⟩
end AL9
