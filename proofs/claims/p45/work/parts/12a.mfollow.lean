/-! THE REFERENCE: following a link -/
def SamM (X : Nat → Prop) (D D' : Dt) : Prop := D'.FI = D.FI ∧ D'.AI = D.AI ∧ ∀ r, ¬ X r → D'.AJ r = D.AJ r
theorem SamM.rf {X : Nat → Prop} {D : Dt} : SamM X D D := ⟨rfl, rfl, fun _ _ => rfl⟩
theorem SamM.tr {X : Nat → Prop} {D D' D'' : Dt} (h : SamM X D D') (h' : SamM X D' D'') : SamM X D D'' := ⟨h'.1.trans h.1, h'.2.1.trans h.2.1, fun r hr => (h'.2.2 r hr).trans (h.2.2 r hr)⟩
theorem SamM.wk {X Y : Nat → Prop} {D D' : Dt} (h : SamM X D D') (hXY : ∀ r, X r → Y r) : SamM Y D D' := ⟨h.1, h.2.1, fun r hr => h.2.2 r (fun q => hr (hXY r q))⟩
section MF9
variable {A E : Nat → Nat} {ls : Nat → List Nat} {nl nc nd : Nat} {S : Hp} {D : Dt} {G : Nat → Nat → Nat}
theorem rd_I (h : Rep A E ls nl nc nd S D) {r i : Nat} {v : Int32} (ha : al nl nc nd r) (hi : i < 2 ^ 31) (e : D.AI r i = v) : S.AI (A r) (nI i).toNatClampNeg = v := by
  rw [cl_nI hi, rep_AI h i ha, e]
theorem rd_J (h : Rep A E ls nl nc nd S D) {r i : Nat} {v : Int64} (ha : al nl nc nd r) (hi : i < 2 ^ 31) (e : D.AJ r i = v) : S.AJ (A r) (nI i).toNatClampNeg = v := by
  rw [cl_nI hi, rep_AJ h i ha, e]
theorem i6_max0 {w : Int} (h : Rg w) : (if i6 w < 0 then 0 else i6 w) = i6 (max 0 w) := by
  have e : i6 w < 0 ↔ w < 0 := by rw [i6_0, Int64.lt_iff_toInt_lt, to_i6 h, to_i6 rg_0]
  by_cases c : w < 0
  · rw [if_pos (e.mpr c)]
    have : max 0 w = 0 := by omega
    rw [this]
    rfl
  · rw [if_neg (fun q => c (e.mp q))]
    have : max 0 w = w := by omega
    rw [this]
/-- only what is computed has changed -/
def SamT (D D' : Dt) : Prop := D'.FI = D.FI ∧ D'.AI = D.AI ∧ D'.AJ = D.AJ
theorem SamT.rf {D : Dt} : SamT D D := ⟨rfl, rfl, rfl⟩
theorem SamT.tr {D D' D'' : Dt} (h : SamT D D') (h' : SamT D' D'') : SamT D D'' := ⟨h'.1.trans h.1, h'.2.1.trans h.2.1, h'.2.2.trans h.2.2⟩
end MF9
