/-! CLASS AND REFERENCE, SIDE BY SIDE -/
def actE (eng brk : Nat → Bool) (k : Nat) : Bool := eng k && !brk k
section JJ9
variable {i ns nl nc nd n : Nat} {G : Nat → Nat → Nat} {P W : Nat → Rat} {mk : Nat → Int} {eng brk aact : Nat → Bool} {life sl : Nat → Nat} {pn : Nat → Nat → Nat → Bool} {ds : Nat → Nat} {V : Nat → Nat → Int32} {D D' : Dt} {ol : List Nat}
theorem last_cg (h : Last G ns nl P aact D) (e1 : D'.FI 462 0 = D.FI 462 0) (e2 : D'.FI 463 0 = D.FI 463 0) (e3 : D'.AJ 40 = D.AJ 40) (e4 : D'.AJ 41 = D.AJ 41) (e5 : D'.AJ 61 = D.AJ 61) : Last G ns nl P aact D' := by
  rcases h with h | ⟨inp, y, Ps, tns, mks, h1, h2, h3, h4, h5, h6, h7, h8⟩
  · exact Or.inl (e1.trans h)
  · exact Or.inr ⟨inp, y, Ps, tns, mks, e1.trans h1, h2, e2.trans h3, h4, h5, rowV_other h6 e3 e4, fun k hk => by rw [e5]; exact h7 k hk, h8⟩
end JJ9
section FI9
variable {A E : Nat → Nat} {ls : Nat → List Nat} {nl nc nd : Nat} {S : Hp} {D : Dt}
end FI9
