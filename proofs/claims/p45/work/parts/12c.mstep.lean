/-! THE REFERENCE'S STEP -/
def SamX (XI XJ : Nat → Prop) (D D' : Dt) : Prop := D'.FI = D.FI ∧ (∀ r, ¬ XI r → D'.AI r = D.AI r) ∧ ∀ r, ¬ XJ r → D'.AJ r = D.AJ r
theorem SamX.rf {XI XJ : Nat → Prop} {D : Dt} : SamX XI XJ D D := ⟨rfl, fun _ _ => rfl, fun _ _ => rfl⟩
theorem SamX.tr {XI XJ : Nat → Prop} {D D' D'' : Dt} (h : SamX XI XJ D D') (h' : SamX XI XJ D' D'') : SamX XI XJ D D'' := ⟨h'.1.trans h.1, fun r hr => (h'.2.1 r hr).trans (h.2.1 r hr), fun r hr => (h'.2.2 r hr).trans (h.2.2 r hr)⟩
theorem SamX.wk {XI XJ YI YJ : Nat → Prop} {D D' : Dt} (h : SamX XI XJ D D') (h1 : ∀ r, XI r → YI r) (h2 : ∀ r, XJ r → YJ r) : SamX YI YJ D D' := ⟨h.1, fun r hr => h.2.1 r (fun q => hr (h1 r q)), fun r hr => h.2.2 r (fun q => hr (h2 r q))⟩
theorem SamM.X {XI X : Nat → Prop} {D D' : Dt} (h : SamM X D D') : SamX XI X D D' := ⟨h.1, fun r _ => by rw [h.2.1], h.2.2⟩
theorem SamJ.X {XI X : Nat → Prop} {D D' : Dt} (h : SamJ X D D') : SamX XI X D D' := ⟨h.1, fun r _ => by rw [h.2.2.1], h.2.2.2⟩
theorem SamT.X {XI XJ : Nat → Prop} {D D' : Dt} (h : SamT D D') : SamX XI XJ D D' := ⟨h.1, fun r _ => by rw [h.2.1], fun r _ => by rw [h.2.2]⟩
theorem samX_I {XI XJ : Nat → Prop} {D : Dt} {r i : Nat} {v : Int32} (h1 : XI r) : SamX XI XJ D (D.setAI r i v) := ⟨rfl, fun _ hr => up2_row (fun e => hr (e ▸ h1)), fun _ _ => rfl⟩
theorem samX_J {XI XJ : Nat → Prop} {D : Dt} {r i : Nat} {v : Int64} (h1 : XJ r) : SamX XI XJ D (D.setAJ r i v) := ⟨rfl, fun _ _ => rfl, fun _ hr => up2_row (fun e => hr (e ▸ h1))⟩
/-- the size of a fraction -/
def aq (q : Rat) : Rat := if 0 ≤ q then q else -q
theorem aq_num (q : Rat) : (aq q).num = (q.num.natAbs : Int) ∧ (aq q).den = q.den := by
  unfold aq
  by_cases c : 0 ≤ q
  · rw [if_pos c]
    have := Rat.num_nonneg.mpr c
    exact ⟨by omega, rfl⟩
  · rw [if_neg c]
    have : ¬ 0 ≤ q.num := fun h => c (Rat.num_nonneg.mp h)
    refine ⟨?_, rfl⟩
    rw [Rat.neg_num]
    omega
theorem bd_abs {M B : Nat} {q : Rat} (h : Bd M B q) : Bd M B (aq q) := by
  unfold aq
  by_cases c : 0 ≤ q
  · rw [if_pos c]
    exact h
  · rw [if_neg c]
    exact bd_neg h
theorem aq_0 : aq 0 = 0 := if_pos (by decide)
def hit1 (pn : Nat → Nat → Bool) (x : Int) (v : Nat → Int32) : Nat → Int32 := fun t => if pn (x % 24).toNat t = true then v t + 1 else v t
def hitN (pn : Nat → Nat → Bool) (lo : Int) : Nat → (Nat → Int32) → Nat → Int32
  | 0, v => v
  | n + 1, v => hit1 pn (lo + n + 1) (hitN pn lo n v)
/-- the strikes as a shaft goes from a to b -/
def hits (pn : Nat → Nat → Bool) (a b : Int) (v : Nat → Int32) : Nat → Int32 := hitN pn (min a b) (b - a).natAbs v
theorem hitN_congr {pn : Nat → Nat → Bool} {lo : Int} {v v' : Nat → Int32} {t : Nat} (h : v t = v' t) : ∀ n, hitN pn lo n v t = hitN pn lo n v' t := by
  intro n
  induction n with
  | zero => exact h
  | succ n ih =>
    show (if pn ((lo + n + 1) % 24).toNat t = true then hitN pn lo n v t + 1 else hitN pn lo n v t) = (if pn ((lo + n + 1) % 24).toNat t = true then hitN pn lo n v' t + 1 else hitN pn lo n v' t)
    rw [ih]
theorem hits_congr {pn : Nat → Nat → Bool} {a b : Int} {v v' : Nat → Int32} {t : Nat} (h : v t = v' t) : hits pn a b v t = hits pn a b v' t := hitN_congr h _
theorem i6_min {x y : Int} (hx : Rg x) (hy : Rg y) : (if i6 x < i6 y then i6 x else i6 y) = i6 (min x y) := by
  have e : i6 x < i6 y ↔ x < y := by rw [Int64.lt_iff_toInt_lt, to_i6 hx, to_i6 hy]
  by_cases c : x < y
  · rw [if_pos (e.mpr c)]
    have : min x y = x := by omega
    rw [this]
  · rw [if_neg (fun q => c (e.mp q))]
    have : min x y = y := by omega
    rw [this]
section MS9
variable {A E : Nat → Nat} {ls : Nat → List Nat} {nl nc nd : Nat} {S : Hp} {D : Dt} {G : Nat → Nat → Nat}
end MS9
