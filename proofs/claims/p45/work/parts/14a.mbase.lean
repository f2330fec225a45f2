/-! THE REFERENCE: refusals -/
theorem narrow_bI (b : Bool) : narrow .boolean (.int (bI b)) = .int (bI b) := (nb_bI b).1
theorem ltI_iff {x y : Int32} : x < y ↔ x.toInt < y.toInt := Int32.lt_iff_toInt_lt
section MA9
variable {A E : Nat → Nat} {ls : Nat → List Nat} {nl nc nd : Nat} {S : Hp} {D : Dt} {G : Nat → Nat → Nat}
/-- what stays when only the refusal is noted -/
def Thr (c : Int32) (D D' : Dt) : Prop := SamG (fun i r => i = 549 ∧ r = 70) (fun _ => False) (fun _ => False) D D' ∧ D'.FI 549 70 = c
theorem Thr.tr {c c' : Int32} {D D' D'' : Dt} (h : Thr c D D') (h' : Thr c' D' D'') : Thr c' D D'' := ⟨h.1.tr h'.1, h'.2⟩
theorem Thr.AI {c : Int32} {D D' : Dt} (h : Thr c D D') : D'.AI = D.AI := funext fun r => h.1.2.1 r (fun q => q)
theorem Thr.AJ {c : Int32} {D D' : Dt} (h : Thr c D D') : D'.AJ = D.AJ := funext fun r => h.1.2.2 r (fun q => q)
theorem Thr.FI {c : Int32} {D D' : Dt} (h : Thr c D D') {i r : Nat} (hi : i ≠ 549) : D'.FI i r = D.FI i r := h.1.1 i r (fun q => hi q.1)
theorem drA_cg {ns r : Nat} {D D' : Dt} (h : DrA G nl ns r D) (e : D'.AI r = D.AI r) : DrA G nl ns r D' := fun s hs => by
  rw [e]
  exact h s hs
end MA9
