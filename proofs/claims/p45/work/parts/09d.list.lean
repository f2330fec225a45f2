/-! LISTS -/
/-- what stood is as it was, but lists' rows -/
def Kep (S S' : Hp) : Prop := (∀ a k, isA S a k → isA S' a k) ∧ (∀ a, a ∈ S.L → S'.N a = S.N a ∧ (∀ i, i < 576 → S'.FI i a = S.FI i a ∧ S'.FR i a = S.FR i a) ∧ (∀ i, S'.FJ i a = S.FJ i a) ∧ S'.AI a = S.AI a ∧ S'.AJ a = S.AJ a ∧ (S.K a ≠ 25 → S'.AR a = S.AR a)) ∧ S'.T = S.T
theorem Kep.rf {S : Hp} : Kep S S := ⟨fun _ _ h => h, fun _ _ => ⟨rfl, fun _ _ => ⟨rfl, rfl⟩, fun _ => rfl, rfl, rfl, fun _ => rfl⟩, rfl⟩
theorem Kep.tr {S S' S'' : Hp} (h : Kep S S') (h' : Kep S' S'') : Kep S S'' := by
  refine ⟨fun a k q => h'.1 a k (h.1 a k q), fun a ha => ?_, h'.2.2.trans h.2.2⟩
  obtain ⟨h1, h2, h3, h4, h5, h6⟩ := h.2.1 a ha
  have hk := h.1 a _ ⟨ha, rfl⟩
  obtain ⟨g1, g2, g3, g4, g5, g6⟩ := h'.2.1 a hk.1
  exact ⟨g1.trans h1, fun i hi => ⟨(g2 i hi).1.trans (h2 i hi).1, (g2 i hi).2.trans (h2 i hi).2⟩, fun i => (g3 i).trans (h3 i), g4.trans h4, g5.trans h5, fun q => (g6 (by rw [hk.2]; exact q)).trans (h6 q)⟩
theorem kep_new {S : Hp} {q k n : Nat} (hq : q ∉ S.L) : Kep S (S.new q k n) := by
  refine ⟨fun a k h => new_old hq h, fun a ha => ?_, rfl⟩
  have hne : a ≠ q := fun e => hq (e ▸ ha)
  refine ⟨va_up_ne _ _ hne, fun i hi => ⟨if_neg hne, if_neg hne⟩, fun i => if_neg hne, va_up_ne _ _ hne, va_up_ne _ _ hne, fun _ => va_up_ne _ _ hne⟩
theorem kep_FI {S : Hp} {a i : Nat} {v : Int32} (hi : ¬ i < 576) : Kep S (S.setFI i a v) := ⟨fun _ _ h => h, fun b _ => ⟨rfl, fun j hj => ⟨up2_n (fun q => hi (by rw [← q.1]; exact hj)), rfl⟩, fun _ => rfl, rfl, rfl, fun _ => rfl⟩, rfl⟩
theorem kep_FR {S : Hp} {a i : Nat} {v : Option Nat} (hi : ¬ i < 576) : Kep S (S.setFR i a v) := ⟨fun _ _ h => h, fun b _ => ⟨rfl, fun j hj => ⟨rfl, up2_n (fun q => hi (by rw [← q.1]; exact hj))⟩, fun _ => rfl, rfl, rfl, fun _ => rfl⟩, rfl⟩
theorem kep_AR {S : Hp} {a i : Nat} {v : Option Nat} (ha : isA S a 25) : Kep S (S.setAR a i v) := ⟨fun _ _ h => h, fun b _ => ⟨rfl, fun j hj => ⟨rfl, rfl⟩, fun _ => rfl, rfl, rfl, fun q => up2_row (fun e => q (by rw [e]; exact ha.2))⟩, rfl⟩
theorem kep_putAR {S : Hp} {a : Nat} {f : Nat → Option Nat} (ha : isA S a 25) : Kep S (S.putAR a f) := ⟨fun _ _ h => h, fun b _ => ⟨rfl, fun j hj => ⟨rfl, rfl⟩, fun _ => rfl, rfl, rfl, fun q => va_up_ne _ _ (fun e => q (by rw [e]; exact ha.2))⟩, rfl⟩
theorem isEl_kep {S S' : Hp} (h : Kep S S') {x : Nat} (hx : isEl S x) : isEl S' x := by
  rcases hx with hx | hx | hx
  · exact Or.inl (h.1 _ _ hx)
  · exact Or.inr (Or.inl (h.1 _ _ hx))
  · exact Or.inr (Or.inr (h.1 _ _ hx))
section LS9
variable {A E : Nat → Nat} {ls : Nat → List Nat} {nl nc nd : Nat} {S : Hp} {D : Dt}
theorem ls_is (h : Rep A E ls nl nc nd S D) {j : Nat} (hj : j < 4) : isA S (A (1 + j)) 9 := by
  have hs : ∀ j, j < 4 → sdr (1 + j) = true ∧ kdr (1 + j) = 9 := by decide
  exact rep_is h (al_s (hs j hj).1) (hs j hj).2
theorem p_size {Φ : Hp → Int32 → Prop} (h : Rep A E ls nl nc nd S D) {j : Nat} (hj : j < 4) (k : Φ S (nI (ls j).length)) : wJx4a65c_size_8abf5 S (A (1 + j)) Φ := by
  unfold wJx4a65c_size_8abf5 wJx4a65c_size_8abf5_b0
  refine ⟨ls_is h hj, ?_⟩
  rw [(rep_ls h hj).1]
  exact k
theorem p_get {Φ : Hp → Option Nat → Prop} (h : Rep A E ls nl nc nd S D) {j i x : Nat} (hj : j < 4) (hx : (ls j)[i]? = some x) (k : Φ S (some x)) : wJx4a65c_get_915e3 S (A (1 + j)) (nI i) Φ := by
  obtain ⟨h1, h2, h3⟩ := rep_ls h hj
  have hi : i < (ls j).length := (List.getElem?_eq_some_iff.mp hx).1
  have h3' := h3.resolve_left (fun q => by rw [q.2] at hi; exact absurd hi (Nat.not_lt_zero _))
  obtain ⟨g1, g2, g3, g4, g5, g6⟩ := h3'
  have hN : S.N (E j) ≤ 15 := by omega
  unfold wJx4a65c_get_915e3 wJx4a65c_get_915e3_b0 wJ15_checkIndex_7cf53 wJ15_checkIndex_7cf53_b0 wJ3_checkIndex_8e157 wJ3_checkIndex_8e157_b0 wJx4a65c_elementData_915e3 wJx4a65c_elementData_915e3_b0
  rw [h1]
  refine ⟨ls_is h hj, if_n (nI_pos (by omega)) (if_p (nI_lt hi (by omega)) ⟨ls_is h hj, ls_is h hj, _, h2, g1, in_nI (by omega) (by omega), x, ?_, x, rfl, k⟩)⟩
  rw [cl_nI (by omega)]
  exact g5 i x hx
/-- the world with another list -/
theorem rep_lsup (h : Rep A E ls nl nc nd S D) {j e : Nat} {xs : List Nat} {S' : Hp} (_hj : j < 4) (hk : Kep S S') (hFI : ∀ i, i < 4 → i ≠ j → S'.FI 578 (A (1 + i)) = S.FI 578 (A (1 + i))) (hFR : ∀ i, i < 4 → i ≠ j → S'.FR 577 (A (1 + i)) = S.FR 577 (A (1 + i)))
    (hAR : ∀ i, i < 4 → i ≠ j → isA S (E i) 25 → S'.AR (E i) = S.AR (E i)) (hl : Lst S' (A (1 + j)) e xs) (he : ∀ i, i < 4 → i ≠ j → E i = e → e = S.T 0) :
    Rep A (fun i => if i = j then e else E i) (fun i => if i = j then xs else ls i) nl nc nd S' D := by
  obtain ⟨⟨h1, h2, h3, h4, h5, h6, h7, h8, h9⟩, hD⟩ := h
  have fr : ∀ r, al nl nc nd r → ∀ i, i < 576 → S'.FR i (A r) = S.FR i (A r) := fun r hr i hi => ((hk.2.1 _ (h2 r hr).1.1).2.1 i hi).2
  have ar : ∀ r, al nl nc nd r → S'.AR (A r) = S.AR (A r) := fun r hr => (hk.2.1 _ (h2 r hr).1.1).2.2.2.2.2 (by rw [(h2 r hr).1.2]; exact kdr_25 r)
  refine ⟨⟨h1, fun r hr => ⟨hk.1 _ _ (h2 r hr).1, ?_⟩, fun x hx => ?_, trivial, trivial, trivial, trivial, fun i hi => ?_, fun i i' hi hi' hne hee => ?_⟩, fun r hr => ?_⟩
  · rw [(hk.2.1 _ (h2 r hr).1.1).1]
    exact (h2 r hr).2
  · have hs : ∀ x ∈ rfT, sdr x.2.1 = true ∧ x.1 < 576 := by decide
    rw [fr _ (al_s (hs x hx).1) _ (hs x hx).2]
    exact h3 x hx
  · dsimp only
    by_cases e1 : i = j
    · rw [if_pos e1, if_pos e1, e1]
      exact hl
    · rw [if_neg e1, if_neg e1]
      obtain ⟨g1, g2, g3⟩ := h8 i hi
      refine ⟨?_, ?_, ?_⟩
      · rw [hFI i hi e1]
        exact g1
      · rw [hFR i hi e1]
        exact g2
      · rw [hk.2.2]
        rcases g3 with g3 | ⟨g3, g4, g5, g6, g7, g8⟩
        · exact Or.inl g3
        · have hN : S'.N (E i) = S.N (E i) := (hk.2.1 _ g3.1).1
          rw [hN, hAR i hi e1 g3]
          exact Or.inr ⟨hk.1 _ _ g3, g4, g5, g6, g7, fun i2 hi2 y hy => isEl_kep hk (g8 i2 hi2 y hy)⟩
  · dsimp only at hee ⊢
    rw [hk.2.2]
    by_cases e1 : i = j
    · rw [if_pos e1] at hee ⊢
      have e2 : ¬ i' = j := fun q => hne (e1.trans q.symm)
      rw [if_neg e2] at hee
      exact he i' hi' e2 hee.symm
    · rw [if_neg e1] at hee ⊢
      by_cases e2 : i' = j
      · rw [if_pos e2] at hee
        rw [hee]
        exact he i hi e1 hee
      · rw [if_neg e2] at hee
        exact h9 i i' hi hi' hne hee
  · obtain ⟨g1, g2, g3, g4⟩ := hD r hr
    obtain ⟨k1, k2, k3, k4, k5, k6⟩ := hk.2.1 _ (h2 r hr).1.1
    refine ⟨fun i hi => ?_, fun i => ?_, fun i => ?_, fun i => ?_⟩
    · rw [(k2 i hi).1]
      exact g1 i hi
    · rw [k3]
      exact g2 i
    · rw [k4]
      exact g3 i
    · rw [k5]
      exact g4 i
theorem e_ne (h : Rep A E ls nl nc nd S D) {q i : Nat} (hi : i < 4) (hq : q ∉ S.L) (hT : q ≠ S.T 0) : E i ≠ q := fun e => by
  rcases (rep_ls h hi).2.2 with g | g
  · exact hT (e.symm.trans g.1)
  · exact hq (e ▸ g.1.1)
theorem ls_ne (h : Rep A E ls nl nc nd S D) {i j : Nat} (hne : i ≠ j) : A (1 + i) ≠ A (1 + j) := fun e => hne (by have := (rep_in h _ _).mp e; omega)
/-- behind growing: room for one more -/
theorem p_grow {Φ : Hp → Option Nat → Prop} (h : Rep A E ls nl nc nd S D) {j : Nat} (hj : j < 4) (hlen : (ls j).length ≤ 14) (hfull : (ls j).length = lenT S (E j))
    (k : ∀ S' e, Rep A (fun i => if i = j then e else E i) (fun i => if i = j then ls j else ls i) nl nc nd S' D → Kep S S' → isA S' e 25 → e ≠ S'.T 0 → (ls j).length < S'.N e → (∀ i x, (ls j)[i]? = some x → S'.AR e i = some x) → (∀ i, i < S'.N e → ∀ y, S'.AR e i = some y → isEl S' y) → Φ S' (some e)) : wJx4a65c_grow_d5877 S (A (1 + j)) Φ := by
  obtain ⟨h1, h2, h3⟩ := rep_ls h hj
  have ha := ls_is h hj
  have haL := ha.1
  unfold wJx4a65c_grow_d5877 wJx4a65c_grow_d5877_b0 wJx4a65c_grow_92f84 wJx4a65c_grow_92f84_b0
  refine ⟨ha, ha, E j, h2, ?_, ?_⟩
  · rcases h3 with h3 | h3
    · exact Or.inl h3.1
    · exact Or.inr h3.1
  rcases h3 with ⟨g1, g2⟩ | ⟨g1, g2, g3, g4, g5, g6⟩
  · have hl0 : lenT S (E j) = 0 := by
      unfold lenT
      rw [if_pos g1]
    rw [hl0]
    refine if_n (by decide) ⟨E j, h2, if_p (by rw [g1]) ?_⟩
    rw [h1, g2]
    have hm : (if (10 : Int32) < nI ([] : List Nat).length + 1 then nI ([] : List Nat).length + 1 else 10) = 10 := by decide
    rw [hm]
    refine ⟨by decide, by decide, fun a8 S9 hq hT e9 S10 e10 => ⟨a8, rfl, ?_⟩⟩
    have hk9 : Kep S S9 := by rw [e9]; exact kep_new hq
    have hk10 : Kep S S10 := hk9.tr (by rw [e10]; exact kep_FR (by decide))
    have hne : ∀ a, a ∈ S.L → a ≠ a8 := fun a ha e => hq (e ▸ ha)
    have h8 : isA S10 a8 25 := by
      rw [e10, e9]
      exact new_isA (n := (10 : Int32).toNatClampNeg)
    have hN : S10.N a8 = 10 := by
      rw [e10, e9]
      show va_up S.N a8 _ a8 = 10
      rw [va_up_self]
      decide
    have hT' : a8 ≠ S10.T 0 := by
      rw [hk10.2.2]
      exact hT
    have hnone : ∀ i, S10.AR a8 i = none := fun i => by
      rw [e10, e9]
      show va_up S.AR a8 (fun _ => none) a8 i = none
      rw [va_up_self]
    have c1 : ∀ i x, (ls j)[i]? = some x → S10.AR a8 i = some x := fun i x hx => by
      rw [g2] at hx
      simp at hx
    have c2 : ∀ i, i < S10.N a8 → ∀ y, S10.AR a8 i = some y → isEl S10 y := fun i hi y hy => by
      rw [hnone] at hy
      cases hy
    have c3 : (ls j).length < S10.N a8 := by
      rw [hN, g2]
      decide
    refine k S10 a8 (rep_lsup h hj hk10 (fun i hi hij => ?_) (fun i hi hij => ?_) (fun i hi hij he => ?_) ⟨?_, ?_, Or.inr ⟨h8, hT', Nat.le_of_lt c3, Or.inl hN, c1, c2⟩⟩ (fun i hi hij he => absurd he (e_ne h hi hq hT))) hk10 h8 hT' c3 c1 c2
    · rw [e10, e9]
      exact if_neg (hne _ (ls_is h hi).1)
    · rw [e10, e9]
      show up2 (fun i a => if a = a8 then none else S.FR i a) 577 (A (1 + j)) (some a8) 577 (A (1 + i)) = _
      rw [up2_n (fun q => ls_ne h hij q.2)]
      exact if_neg (hne _ (ls_is h hi).1)
    · rw [e10, e9]
      exact va_up_ne _ _ (hne _ he.1)
    · rw [e10, e9]
      show (if A (1 + j) = a8 then 0 else S.FI 578 (A (1 + j))) = _
      rw [if_neg (hne _ haL), h1]
    · rw [e10]
      exact up2_s
  · have hlN : lenT S (E j) = S.N (E j) := by
      unfold lenT
      rw [if_neg g2]
    have hN10 : S.N (E j) = 10 := by omega
    rw [hlN, hN10]
    refine if_p (by decide) ?_
    unfold wJx4a65c_grow_92f84_b20 wJ8_newLength_cabcc wJ8_newLength_cabcc_b0
    rw [h1, hfull, hlN, hN10]
    refine if_n (by decide) (if_n (by decide) ⟨ha, E j, h2, ?_⟩)
    have hm : nI 10 + (if nI 10 + 1 - nI 10 < nI 10 >>> ((1 : Int32) &&& 31) then nI 10 >>> ((1 : Int32) &&& 31) else nI 10 + 1 - nI 10) = nI 15 := by decide
    rw [hm]
    unfold wJ7_copyOf_1904c wJ7_copyOf_1904c_b0 wJ7_copyOf_6403c wJ7_copyOf_6403c_b0
    refine ⟨g1, fi_p rfl ⟨by decide, by decide, fun a3 S4 hq hT e4 => ?_⟩⟩
    have hk4 : Kep S S4 := by rw [e4]; exact kep_new hq
    have hne : ∀ a, a ∈ S.L → a ≠ a3 := fun a ha e => hq (e ▸ ha)
    have h3' : isA S4 a3 25 := by
      rw [e4]
      exact new_isA
    have hN3 : S4.N a3 = 15 := by
      rw [e4]
      show va_up S.N a3 _ a3 = 15
      rw [va_up_self]
      decide
    have hNE : S4.N (E j) = 10 := (hk4.2.1 _ g1.1).1.trans hN10
    have hARE : S4.AR (E j) = S.AR (E j) := by
      rw [e4]
      exact va_up_ne _ _ (hne _ g1.1)
    have hAR3 : S4.AR a3 = fun _ => none := by
      rw [e4]
      exact va_up_self _ _ _
    unfold wJ7_copyOf_6403c_b24
    rw [hNE, hN3]
    have hm2 : (if nI 15 < nI 10 then nI 15 else nI 10) = nI 10 := by decide
    rw [hm2]
    have hc10 : (nI 10).toNatClampNeg = 10 := by decide
    rw [hc10]
    refine ⟨hk4.1 _ _ g1, h3', by decide, by decide, by decide, by decide, by decide, fun i hi y hy => ?_, fun S5 e5 => ⟨a3, rfl, a3, rfl, ?_⟩⟩
    · rw [hARE] at hy
      have h0 : (0 : Int32).toNatClampNeg + i = i := Nat.zero_add i
      rw [h0] at hy
      exact isEl_kep hk4 (g6 i (by omega) y hy)
    have hk5 : Kep S S5 := hk4.tr (by rw [e5]; exact kep_putAR h3')
    refine ⟨hk5.1 _ _ ha, fun S9 e9 => ⟨a3, rfl, ?_⟩⟩
    have hk9 : Kep S S9 := hk5.tr (by rw [e9]; exact kep_FR (by decide))
    have h39 : isA S9 a3 25 := by
      rw [e9, e5]
      exact h3'
    have hT' : a3 ≠ S9.T 0 := by
      rw [hk9.2.2]
      exact hT
    have hN9 : S9.N a3 = 15 := by
      rw [e9, e5]
      exact hN3
    have hA9 : ∀ i, S9.AR a3 i = if i < 10 then S.AR (E j) i else none := fun i => by
      rw [e9, e5]
      show va_up S4.AR a3 _ a3 i = _
      rw [va_up_self, hARE, hAR3]
      have h0 : (0 : Int32).toNatClampNeg = 0 := rfl
      rw [h0]
      unfold va_cpy
      by_cases c : i < 10
      · rw [if_pos ⟨by omega, by omega⟩, if_pos c]
        congr 1
        omega
      · rw [if_neg (fun q => c (by omega)), if_neg c]
    have c1 : ∀ i x, (ls j)[i]? = some x → S9.AR a3 i = some x := fun i x hx => by
      have hi : i < (ls j).length := (List.getElem?_eq_some_iff.mp hx).1
      rw [hA9, if_pos (by omega)]
      exact g5 i x hx
    have c2 : ∀ i, i < S9.N a3 → ∀ y, S9.AR a3 i = some y → isEl S9 y := fun i hi y hy => by
      rw [hA9] at hy
      by_cases c : i < 10
      · rw [if_pos c] at hy
        exact isEl_kep hk9 (g6 i (by omega) y hy)
      · rw [if_neg c] at hy
        cases hy
    have c3 : (ls j).length < S9.N a3 := by omega
    refine k S9 a3 (rep_lsup h hj hk9 (fun i hi hij => ?_) (fun i hi hij => ?_) (fun i hi hij he => ?_) ⟨?_, ?_, Or.inr ⟨h39, hT', Nat.le_of_lt c3, Or.inr hN9, c1, c2⟩⟩ (fun i hi hij he => absurd he (e_ne h hi hq hT))) hk9 h39 hT' c3 c1 c2
    · rw [e9, e5, e4]
      exact if_neg (hne _ (ls_is h hi).1)
    · rw [e9, e5, e4]
      show up2 (fun i a => if a = a3 then none else S.FR i a) 577 (A (1 + j)) (some a3) 577 (A (1 + i)) = _
      rw [up2_n (fun q => ls_ne h hij q.2)]
      exact if_neg (hne _ (ls_is h hi).1)
    · rw [e9, e5]
      show va_up S4.AR a3 _ (E i) = _
      rw [va_up_ne _ _ (hne _ he.1), e4]
      exact va_up_ne _ _ (hne _ he.1)
    · rw [e9, e5, e4]
      show (if A (1 + j) = a3 then 0 else S.FI 578 (A (1 + j))) = _
      rw [if_neg (hne _ haL), h1]
    · rw [e9]
      exact up2_s
/-- the end of adding: the element and the size are set -/
theorem p_put11 {Φ : Hp → Prop} (h : Rep A E ls nl nc nd S D) {j x : Nat} (hj : j < 4) (hx : isEl S x) (h25 : isA S (E j) 25) (hT : E j ≠ S.T 0) (hN : (ls j).length < S.N (E j))
    (k : ∀ S', Rep A E (fun i => if i = j then ls j ++ [x] else ls i) nl nc nd S' D → Kep S S' → Φ S') : wJx4a65c_add_72be8_b11 (A (1 + j)) x (nI (ls j).length) Φ S (E j) := by
  obtain ⟨h1, h2, h3⟩ := rep_ls h hj
  obtain ⟨g1, g2, g3, g4, g5, g6⟩ := h3.resolve_left (fun q => hT q.1)
  have hN15 : S.N (E j) ≤ 15 := by omega
  have ha := ls_is h hj
  unfold wJx4a65c_add_72be8_b11
  refine ⟨h25, in_nI hN (by omega), hx, fun S3 e3 => ?_⟩
  have hk3 : Kep S S3 := by rw [e3]; exact kep_AR h25
  refine ⟨hk3.1 _ _ ha, fun S6 e6 => ?_⟩
  have hk6 : Kep S S6 := hk3.tr (by rw [e6]; exact kep_FI (by decide))
  have hA6 : ∀ i, S6.AR (E j) i = if i = (ls j).length then some x else S.AR (E j) i := fun i => by
    rw [e6, e3, cl_nI (by omega)]
    show up2 S.AR (E j) _ (some x) (E j) i = _
    unfold up2
    by_cases c : i = (ls j).length
    · rw [if_pos ⟨rfl, c⟩, if_pos c]
    · rw [if_neg (fun q => c q.2), if_neg c]
  have hN6 : S6.N (E j) = S.N (E j) := (hk6.2.1 _ h25.1).1
  have key := rep_lsup (e := E j) (xs := ls j ++ [x]) h hj hk6 (fun i hi hij => ?_) (fun i hi hij => ?_) (fun i hi hij he => ?_) ⟨?_, ?_, Or.inr ⟨hk6.1 _ _ h25, ?_, ?_, ?_, fun i y hy => ?_, fun i hi y hy => ?_⟩⟩ (fun i hi hij he => by
    have := h.1.2.2.2.2.2.2.2.2 i j hi hj hij he
    exact he ▸ this)
  · refine k S6 ?_ hk6
    have e : (fun i => if i = j then E j else E i) = E := by
      funext i
      by_cases c : i = j
      · rw [if_pos c, c]
      · rw [if_neg c]
    rw [e] at key
    exact key
  · rw [e6, e3]
    exact up2_n (fun q => ls_ne h hij q.2)
  · rw [e6, e3]
    rfl
  · rw [e6, e3]
    show up2 S.AR (E j) _ (some x) (E i) = _
    refine up2_row (fun q => ?_)
    have := h.1.2.2.2.2.2.2.2.2 i j hi hj hij q
    exact hT (q ▸ this)
  · rw [e6]
    show up2 _ 578 (A (1 + j)) _ 578 (A (1 + j)) = _
    rw [up2_s, List.length_append, ← nI_succ]
    rfl
  · rw [e6, e3]
    exact h2
  · rw [hk6.2.2]
    exact hT
  · rw [hN6, List.length_append]
    exact hN
  · rw [hN6]
    exact g4
  · rw [hA6]
    by_cases c : i = (ls j).length
    · rw [if_pos c]
      rw [c, List.getElem?_append_right (Nat.le_refl _), Nat.sub_self] at hy
      exact hy
    · have hi : i < (ls j ++ [x]).length := (List.getElem?_eq_some_iff.mp hy).1
      rw [List.length_append] at hi
      have hi' : i < (ls j).length := by
        have : ([x] : List Nat).length = 1 := rfl
        omega
      rw [if_neg c]
      rw [List.getElem?_append_left hi'] at hy
      exact g5 i y hy
  · rw [hN6] at hi
    rw [hA6] at hy
    by_cases c : i = (ls j).length
    · rw [if_pos c] at hy
      cases hy
      exact isEl_kep hk6 hx
    · rw [if_neg c] at hy
      exact isEl_kep hk6 (g6 i hi y hy)
theorem ls_id (j : Nat) (f : Nat → List Nat) : (fun i => if i = j then f j else f i) = f := by
  funext i
  by_cases c : i = j
  · rw [if_pos c, c]
  · rw [if_neg c]
/-- adding to a list -/
theorem p_lsadd {Φ : Hp → Int32 → Prop} (h : Rep A E ls nl nc nd S D) {j x : Nat} (hj : j < 4) (hlen : (ls j).length ≤ 14) (hx : isEl S x)
    (k : ∀ S' E', Rep A E' (fun i => if i = j then ls j ++ [x] else ls i) nl nc nd S' D → Kep S S' → Φ S' 1) : wJx4a65c_add_9ea2d S (A (1 + j)) x Φ := by
  have ha := ls_is h hj
  unfold wJx4a65c_add_9ea2d wJx4a65c_add_9ea2d_b0
  refine ⟨ha, fun S2 e2 => ?_⟩
  have hk2 : Kep S S2 := by rw [e2]; exact kep_FI (by decide)
  have h2r : Rep A E ls nl nc nd S2 D := by
    have key := rep_lsup (e := E j) (xs := ls j) (S' := S2) h hj hk2 (fun i hi hij => ?_) (fun i hi hij => ?_) (fun i hi hij he => ?_) ?_ (fun i hi hij he => ?_)
    · rw [ls_id] at key
      have e : (fun i => if i = j then E j else E i) = E := by
        funext i
        by_cases c : i = j
        · rw [if_pos c, c]
        · rw [if_neg c]
      rw [e] at key
      exact key
    · rw [e2]
      show up2 S.FI 576 (A (1 + j)) (S.FI 576 (A (1 + j)) + 1) 578 (A (1 + i)) = _
      exact up2_n (fun q => absurd q.1 (by decide))
    · rw [e2]
      rfl
    · rw [e2]
      rfl
    · rw [e2]
      exact lst_FI (by decide) (rep_ls h hj)
    · have := h.1.2.2.2.2.2.2.2.2 i j hi hj hij he
      exact he ▸ this
  obtain ⟨h1, h2, h3⟩ := rep_ls h2r hj
  refine ⟨E j, h2, ?_⟩
  unfold wJx4a65c_add_72be8 wJx4a65c_add_72be8_b0
  rw [h1]
  refine ⟨?_, ?_⟩
  · rcases h3 with h3 | h3
    · exact Or.inl h3.1
    · exact Or.inr h3.1
  by_cases hfull : (ls j).length = lenT S2 (E j)
  · refine fi_p (by rw [← hfull]) ⟨ls_is h2r hj, p_grow h2r hj hlen hfull (fun S3 e hr hk3 h25 hT hN c1 c2 => ⟨e, rfl, ?_⟩)⟩
    have hr' := hr
    rw [ls_id] at hr'
    have key := p_put11 (E := fun i => if i = j then e else E i) (Φ := fun S4 => Φ S4 1) hr' hj (isEl_kep (hk2.tr hk3) hx) (by show isA S3 (if j = j then e else E j) 25; rw [if_pos rfl]; exact h25) (by show (if j = j then e else E j) ≠ S3.T 0; rw [if_pos rfl]; exact hT) (by show _ < S3.N (if j = j then e else E j); rw [if_pos rfl]; exact hN) (fun S4 h4 hk4 => k S4 _ h4 ((hk2.tr hk3).tr hk4))
    rw [if_pos rfl] at key
    exact key
  · have hlt : lenT S2 (E j) ≤ 15 := by
      unfold lenT
      rcases h3 with h3 | h3
      · rw [if_pos h3.1]
        omega
      · have := h3.2.2.2.1
        split
        · omega
        · omega
    have hne : ¬ nI (ls j).length = nI (lenT S2 (E j)) := fun q => by
      have q2 := congrArg Int32.toNatClampNeg q
      rw [cl_nI (by omega), cl_nI (by omega)] at q2
      exact hfull q2
    have h25 := h3.resolve_left (fun q => hfull (by unfold lenT; rw [if_pos q.1, q.2]; rfl))
    have hN : lenT S2 (E j) = S2.N (E j) := by
      unfold lenT
      rw [if_neg h25.2.1]
    have hle := h25.2.2.1
    refine fi_n hne (p_put11 h2r hj (isEl_kep hk2 hx) h25.1 h25.2.1 (by omega) (fun S4 h4 hk4 => k S4 E h4 (hk2.tr hk4)))
/-- emptying a list -/
theorem p_lsclear {Φ : Hp → Prop} (h : Rep A E ls nl nc nd S D) {j : Nat} (hj : j < 4) (k : ∀ S', Rep A E (fun i => if i = j then [] else ls i) nl nc nd S' D → Φ S') : wJx4a65c_clear_da8c8 S (A (1 + j)) Φ := by
  have ha := ls_is h hj
  obtain ⟨h1, h2, h3⟩ := rep_ls h hj
  have hEid : (fun i => if i = j then E j else E i) = E := by
    funext i
    by_cases c : i = j
    · rw [if_pos c, c]
    · rw [if_neg c]
  have hEE : ∀ i, i < 4 → i ≠ j → E i = E j → E j = S.T 0 := fun i hi hij he => by
    have := h.1.2.2.2.2.2.2.2.2 i j hi hj hij he
    exact he ▸ this
  unfold wJx4a65c_clear_da8c8 wJx4a65c_clear_da8c8_b0
  refine ⟨ha, fun S2 e2 => ⟨E j, by rw [e2]; exact h2, fun S4 e4 => ?_⟩⟩
  have hk2 : Kep S S2 := by rw [e2]; exact kep_FI (by decide)
  have hk4 : Kep S S4 := hk2.tr (by rw [e4]; exact kep_FI (by decide))
  have hsz : S2.FI 578 (A (1 + j)) = nI (ls j).length := by
    rw [e2]
    rw [hpFI_n (fun q => absurd q.1 (by decide)), h1]
  have h4r : Rep A E (fun i => if i = j then [] else ls i) nl nc nd S4 D := by
    have key := rep_lsup (e := E j) (xs := []) (S' := S4) h hj hk4 (fun i hi hij => ?_) (fun i hi hij => ?_) (fun i hi hij he => ?_) ⟨?_, ?_, ?_⟩ hEE
    · rw [hEid] at key
      exact key
    · rw [e4, e2]
      rw [hpFI_n (fun q => ls_ne h hij q.2), hpFI_n (fun q => absurd q.1 (by decide))]
    · rw [e4, e2]
      rfl
    · rw [e4, e2]
      rfl
    · rw [e4]
      exact up2_s
    · rw [e4, e2]
      exact h2
    · rcases h3 with h3 | ⟨g1, g2, g3, g4, g5, g6⟩
      · refine Or.inl ⟨?_, rfl⟩
        rw [hk4.2.2]
        exact h3.1
      · refine Or.inr ⟨hk4.1 _ _ g1, ?_, Nat.zero_le _, ?_, fun i x hx => by simp at hx, fun i hi y hy => ?_⟩
        · rw [hk4.2.2]
          exact g2
        · rw [(hk4.2.1 _ g1.1).1]
          exact g4
        · rw [(hk4.2.1 _ g1.1).1] at hi
          have e : S4.AR (E j) = S.AR (E j) := by
            rw [e4, e2]
            rfl
          rw [e] at hy
          exact isEl_kep hk4 (g6 i hi y hy)
  rw [hsz]
  refine it4_ex (fun n S1 a c1 c2 => Rep A E (fun i => if i = j then [] else ls i) nl nc nd S1 D ∧ Kep S S1 ∧ a = E j ∧ c1 = nI (ls j).length ∧ c2 = nI n) (ls j).length ?_ ?_ ⟨h4r, hk4, rfl, rfl, rfl⟩
  · rintro n hn S1 _ _ _ k1 ⟨hr, hk, rfl, rfl, rfl⟩ hk1
    obtain ⟨g1, g2, g3, g4, g5, g6⟩ := h3.resolve_left (fun q => by rw [q.2] at hn; exact absurd hn (Nat.not_lt_zero _))
    have hNE : S1.N (E j) = S.N (E j) := (hk.2.1 _ g1.1).1
    have hN15 : S.N (E j) ≤ 15 := by omega
    unfold wJx4a65c_clear_da8c8_b27
    refine if_n (nI_ge hn (by omega)) ⟨hk.1 _ _ g1, ?_, fun S5 e5 => ?_⟩
    · rw [hNE]
      exact in_nI (by omega) (by omega)
    · rw [← nI_succ]
      have hk5 : Kep S1 S5 := by rw [e5]; exact kep_AR (hk.1 _ _ g1)
      refine hk1 _ _ _ _ ⟨?_, hk.tr hk5, rfl, rfl, rfl⟩
      have l1 := rep_ls hr hj
      rw [if_pos rfl] at l1
      have key := rep_lsup (e := E j) (xs := []) (S' := S5) hr hj hk5 (fun i hi hij => by rw [e5]; rfl) (fun i hi hij => by rw [e5]; rfl) (fun i hi hij he => ?_) ⟨by rw [e5]; exact l1.1, by rw [e5]; exact l1.2.1, ?_⟩ (fun i hi hij he => by
        rw [hk.2.2]
        exact hEE i hi hij he)
      · rw [hEid] at key
        have e : (fun i => if i = j then [] else (fun i => if i = j then [] else ls i) i) = (fun i => if i = j then [] else ls i) := by
          funext i
          dsimp only
          by_cases c : i = j
          · rw [if_pos c, if_pos c]
          · rw [if_neg c]
        rw [e] at key
        exact key
      · rw [e5]
        refine up2_row (fun q => ?_)
        have := hEE i hi hij q
        exact g2 this
      · obtain ⟨b1, b2, b3, b4, b5, b6⟩ := l1.2.2.resolve_left (fun q => g2 (by rw [← hk.2.2]; exact q.1))
        refine Or.inr ⟨hk5.1 _ _ b1, ?_, Nat.zero_le _, ?_, fun i x hx => by simp at hx, fun i hi y hy => ?_⟩
        · rw [hk5.2.2]
          exact b2
        · rw [(hk5.2.1 _ b1.1).1]
          exact b4
        · rw [(hk5.2.1 _ b1.1).1] at hi
          rw [e5] at hy
          have hy' : up2 S1.AR (E j) (nI n).toNatClampNeg none (E j) i = some y := hy
          unfold up2 at hy'
          by_cases c : E j = E j ∧ i = (nI n).toNatClampNeg
          · rw [if_pos c] at hy'
            cases hy'
          · rw [if_neg c] at hy'
            exact isEl_kep hk5 (b6 i hi y hy')
  · rintro S1 _ _ _ k1 ⟨hr, hk, rfl, rfl, rfl⟩
    unfold wJx4a65c_clear_da8c8_b27
    refine if_p ?_ (k S1 hr)
    exact Int32.le_refl _
end LS9
