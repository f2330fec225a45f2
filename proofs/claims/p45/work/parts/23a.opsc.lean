/-! CALLS THAT CHANGE SOMETHING, side by side: parts of what is kept -/
section KP9
variable {i : Nat} {A E : Nat → Nat} {ls : Nat → List Nat} {ns nl nc nd n : Nat} {G : Nat → Nat → Nat} {P W : Nat → Rat} {mk : Nat → Int} {eng brk aact : Nat → Bool} {life sl : Nat → Nat} {pn : Nat → Nat → Nat → Bool} {ds : Nat → Nat} {V : Nat → Nat → Int32} {ol : List Nat} {S S' : Hp} {D D' : Dt} {N : Hp → Prop}

theorem jcA (h : D.FI 461 0 = nI ns ∧ LkC G nl D ∧ DrA G nl 14 5 D) (e0 : D'.FI 461 0 = D.FI 461 0) (eF : ∀ i r, 320 ≤ i → i < 327 → 400 ≤ r → r < 400 + nl → D'.FI i r = D.FI i r) (eA : D'.AI 5 = D.AI 5) : D'.FI 461 0 = nI ns ∧ LkC G nl D' ∧ DrA G nl 14 5 D' := by
  refine ⟨e0.trans h.1, fun k hk => ?_, drA_cg h.2.2 eA⟩
  rw [eF 320 _ (by omega) (by omega) (by omega) (by omega), eF 321 _ (by omega) (by omega) (by omega) (by omega), eF 322 _ (by omega) (by omega) (by omega) (by omega), eF 323 _ (by omega) (by omega) (by omega) (by omega), eF 324 _ (by omega) (by omega) (by omega) (by omega), eF 325 _ (by omega) (by omega) (by omega) (by omega), eF 326 _ (by omega) (by omega) (by omega) (by omega)]
  exact h.2.1 k hk
theorem jcB (h : ∀ k, k < nl → D.FI 327 (400 + k) = bI (eng k) ∧ D.FI 328 (400 + k) = bI (brk k) ∧ D.FI 329 (400 + k) = nI (life k) ∧ D.FI 330 (400 + k) = nI (sl k)) (eF : ∀ i r, 327 ≤ i → i < 331 → 400 ≤ r → r < 400 + nl → D'.FI i r = D.FI i r) : ∀ k, k < nl → D'.FI 327 (400 + k) = bI (eng k) ∧ D'.FI 328 (400 + k) = bI (brk k) ∧ D'.FI 329 (400 + k) = nI (life k) ∧ D'.FI 330 (400 + k) = nI (sl k) := fun k hk => by
  rw [eF 327 _ (by omega) (by omega) (by omega) (by omega), eF 328 _ (by omega) (by omega) (by omega) (by omega), eF 329 _ (by omega) (by omega) (by omega) (by omega), eF 330 _ (by omega) (by omega) (by omega) (by omega)]
  exact h k hk
theorem jcC (h : RowV D 2 14 P ∧ RowV D 1 16 W ∧ (∀ k, k < nl → D.AJ 60 k = i6 (mk k)) ∧ (∀ k, k < 16 → D.AI 63 k = bI (actE eng brk k))) (eA : D'.AI 63 = D.AI 63) (eJ : ∀ r, (32 ≤ r ∧ r < 36) ∨ r = 60 → D'.AJ r = D.AJ r) : RowV D' 2 14 P ∧ RowV D' 1 16 W ∧ (∀ k, k < nl → D'.AJ 60 k = i6 (mk k)) ∧ (∀ k, k < 16 → D'.AI 63 k = bI (actE eng brk k)) :=
  ⟨rowV_other h.1 (eJ _ (by omega)) (eJ _ (by omega)), rowV_other h.2.1 (eJ _ (by omega)) (eJ _ (by omega)), fun k hk => by rw [eJ 60 (by omega)]; exact h.2.2.1 k hk, fun k hk => by rw [eA]; exact h.2.2.2 k hk⟩
theorem jcF (h : (∀ k, k < 16 → D.AI 64 k = bI (aact k)) ∧ Last G ns nl P aact D) (eF : ∀ i, i = 462 ∨ i = 463 → D'.FI i 0 = D.FI i 0) (eA : D'.AI 64 = D.AI 64) (eJ : ∀ r, r = 40 ∨ r = 41 ∨ r = 61 → D'.AJ r = D.AJ r) : (∀ k, k < 16 → D'.AI 64 k = bI (aact k)) ∧ Last G ns nl P aact D' := ⟨fun k hk => by rw [eA]; exact h.1 k hk, last_cg h.2 (eF _ (by omega)) (eF _ (by omega)) (eJ _ (by omega)) (eJ _ (by omega)) (eJ _ (by omega))⟩
end KP9
section KQ9
variable {i : Nat} {A E : Nat → Nat} {ls : Nat → List Nat} {ns nl nc nd n : Nat} {G : Nat → Nat → Nat} {P W : Nat → Rat} {mk : Nat → Int} {eng brk aact : Nat → Bool} {life sl : Nat → Nat} {pn : Nat → Nat → Nat → Bool} {ds : Nat → Nat} {V : Nat → Nat → Int32} {ol : List Nat} {S S' : Hp} {D D' : Dt} {N : Hp → Prop}

theorem grOK_up (h : GrOK ns nl G) (h1 : ns < 14) : GrOK (ns + 1) nl G := ⟨h1, h.2.1, fun k hk => ⟨(h.2.2.1 k hk).1, by have := (h.2.2.1 k hk).2.1; omega, fun e => by have := (h.2.2.1 k hk).2.2.1 e; omega, by have := (h.2.2.1 k hk).2.2.2; omega⟩, h.2.2.2⟩
theorem last_up {D : Dt} (h : Last G ns nl P aact D) : Last G (ns + 1) nl P aact D := by
  rcases h with h | ⟨inp, y, Ps, tns, mks, h1, h2, h3⟩
  · exact Or.inl h
  · exact Or.inr ⟨inp, y, Ps, tns, mks, h1, by omega, h3⟩
end KQ9
