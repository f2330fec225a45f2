/-! THE START: nothing is made, and all is as the invariant asks -/
set_option maxRecDepth 100000
def Dz : Dt := Dt.mk (fun _ _ => 0) (fun _ _ => 0) (fun _ _ => 0) (fun _ _ => 0)
theorem pre_nil (S : Hp) : Pre (fun _ => false) (fun _ _ => none) (fun _ _ => none) (fun _ => false) (fun r => r) S Dz := ⟨fun _ _ h => Bool.noConfusion h, fun _ h => Bool.noConfusion h, fun _ _ _ h => absurd h (fun q => by cases q), fun _ _ _ h => absurd h (fun q => by cases q), fun _ h => Bool.noConfusion h, fun _ h => Bool.noConfusion h, fun _ _ => ⟨fun _ => rfl, fun _ => rfl, fun _ => rfl, fun _ => rfl⟩⟩
theorem al_0 {r : Nat} (h : al 0 0 0 r) : sdr r = true := by
  rcases h with h | h | h | h
  · exact h
  · omega
  · omega
  · omega
theorem sdr_lt {r : Nat} (h : sdr r = true) : r < 400 := by
  by_cases c : r < 400
  · exact c
  · rw [sdr_400 (by omega)] at h
    exact absurd h (by decide)
section ST9
variable {b : Nat → Bool} {F R : Nat → Nat → Option Nat} {X : Nat → Bool} {A : Nat → Nat} {S : Hp} {D : Dt}
theorem pre_rep (h : Pre b F R X A S D) (hb : ∀ r, sdr r = true → b r = true) (hF : ∀ x, x ∈ rfT → sdr x.2.1 = true ∧ sdr x.2.2 = true ∧ F x.1 x.2.1 = some x.2.2) (hX : ∀ j, j < 4 → X (1 + j) = true) (h6 : ∀ i, i < 5 → sdr i = true) :
    ∃ A', (∀ r, sdr r = true → A' r = A r) ∧ Rep A' (fun _ => S.T 0) (fun _ => []) 0 0 0 S D := by
  obtain ⟨g1, g2, g3, g4, g5, g6, g7⟩ := h
  have hmem : ∀ x, x ∈ ((List.range 400).filter sdr).map (fun r => (r, A r)) ↔ sdr x.1 = true ∧ x.2 = A x.1 := fun x => by
    rw [List.mem_map]
    constructor
    · rintro ⟨r, hr, rfl⟩
      exact ⟨(List.mem_filter.mp hr).2, rfl⟩
    · rintro ⟨h1, h2⟩
      exact ⟨x.1, List.mem_filter.mpr ⟨List.mem_range.mpr (sdr_lt h1), h1⟩, by rw [← h2]⟩
  obtain ⟨A', i1, i2, -⟩ := swap_L (A := fun r => r) (fun r r' e => e) (((List.range 400).filter sdr).map (fun r => (r, A r))) (fun x hx y hy => by
    obtain ⟨x1, x2⟩ := (hmem x).mp hx
    obtain ⟨y1, y2⟩ := (hmem y).mp hy
    rw [x2, y2]
    exact ⟨fun e => by rw [e], fun e => g1 _ _ (hb _ x1) (hb _ y1) e⟩)
  have hA : ∀ r, sdr r = true → A' r = A r := fun r hr => i2 (r, A r) ((hmem _).mpr ⟨hr, rfl⟩)
  refine ⟨A', hA, ⟨i1, fun r hr => ?_, fun x hx => ?_, trivial, trivial, trivial, trivial, fun j hj => ?_, fun _ _ _ _ _ _ => rfl⟩, fun r hr => ?_⟩
  · rw [hA r (al_0 hr)]
    exact ⟨(g2 r (hb r (al_0 hr))).1, (g2 r (hb r (al_0 hr))).2.1⟩
  · obtain ⟨x1, x2, x3⟩ := hF x hx
    rw [hA _ x1, hA _ x2]
    exact (g3 _ _ _ x3).2.2.2
  · rw [hA _ (h6 (1 + j) (by omega))]
    exact ⟨(g2 _ (hb _ (h6 (1 + j) (by omega)))).2.2, (g5 _ (hX j hj)).2, Or.inl ⟨rfl, rfl⟩⟩
  · rw [hA r (al_0 hr)]
    exact g6 r (hb r (al_0 hr))
end ST9
def D9 : Dt := d7 Dz
theorem d9_AI {r i : Nat} (h : r ≠ 5) : D9.AI r i = 0 := if_neg (fun q => h q.1)
theorem d9_5 : ∀ i, i < 14 → D9.AI 5 i = -1 := by decide +kernel
theorem d9_r : ∀ i, i < 16 → (D9.AJ 32 i = 0 ∧ D9.AJ 33 i = 1) ∧ (i < 14 → D9.AJ 34 i = 0 ∧ D9.AJ 35 i = 1) := by decide +kernel
theorem dp_0 {G : Nat → Nat → Nat} (s : Nat) : dp G 0 s = 0 := by
  unfold dp
  show dpF G 0 (19 + 1) s = 0
  unfold dpF
  rfl
