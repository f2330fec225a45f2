/-! CALLS THAT CHANGE SOMETHING, side by side: a turn -/
theorem aq_nn (q : Rat) : 0 ≤ aq q := by
  unfold aq
  by_cases c : 0 ≤ q
  · rw [if_pos c]
    exact c
  · rw [if_neg c]
    have := Rat.neg_le_neg (Rat.le_of_lt (Rat.not_le.mp c))
    rw [Rat.neg_zero] at this
    exact this
theorem wsq_nn {G : Nat → Nat → Nat} {act : Nat → Bool} {tns : Nat → Nat → Rat} {W : Nat → Rat} (h : ∀ k, 0 ≤ W k) : ∀ N k, 0 ≤ Wsq G act tns W N k
  | 0, k => h k
  | N + 1, k => by
    show 0 ≤ wnx G act (tns N) (Wsq G act tns W N) k
    have h0 : 0 ≤ Wsq G act tns W N k := wsq_nn h N k
    unfold wnx
    by_cases c : act k = true
    · rw [if_pos c]
      by_cases c1 : G k 0 = 112
      · rw [if_pos c1]
        exact Rat.add_nonneg (Rat.add_nonneg h0 (aq_nn _)) (aq_nn _)
      · rw [if_neg c1]
        exact Rat.add_nonneg (Rat.add_nonneg h0 (aq_nn _)) Rat.le_refl
    · rw [if_neg c]
      exact h0
theorem wsq_0 {G : Nat → Nat → Nat} {act : Nat → Bool} {tns : Nat → Nat → Rat} {W : Nat → Rat} {k : Nat} (h : act k = false) : ∀ N, Wsq G act tns W N k = W k
  | 0 => rfl
  | N + 1 => by
    show wnx G act (tns N) (Wsq G act tns W N) k = W k
    unfold wnx
    rw [if_neg (by rw [h]; decide)]
    exact wsq_0 h N
theorem sq_out {ns nl inp N : Nat} {G : Nat → Nat → Nat} {act : Nat → Bool} {wy : Int} {Ps tns : Nat → Nat → Rat} {mks : Nat → Nat → Int} (hG : GrOK ns nl G) (hi : inp < ns) (hs : Sq G nl act inp wy N Ps tns mks) {s : Nat} (h : ns ≤ s) : ∀ j, j ≤ N → Ps j s = Ps 0 s
  | 0, _ => rfl
  | j + 1, hj => by
    obtain ⟨b1, b2⟩ := hs j (by omega)
    rw [b2]
    show Ps j s + tns j s = Ps 0 s
    rw [sq_out hG hi hs h j (by omega), b1.2.1 s (by omega) (fun k hk _ => by have := (hG.2.2.1 k hk).2.2.2; omega)]
    exact Rat.add_zero _
section TP9
variable {i : Nat} {A E : Nat → Nat} {ls : Nat → List Nat} {ns nl nc nd n : Nat} {G : Nat → Nat → Nat} {P W : Nat → Rat} {mk : Nat → Int} {eng brk aact : Nat → Bool} {life sl : Nat → Nat} {pn : Nat → Nat → Nat → Bool} {ds : Nat → Nat} {V : Nat → Nat → Int32} {ol : List Nat} {S S' : Hp} {D D' : Dt} {N : Hp → Prop}

end TP9
