/-! THE REFERENCE: refusals -/
theorem narrow_bI (b : Bool) : narrow .boolean (.int (bI b)) = .int (bI b) := (nb_bI b).1
theorem ltI_iff {x y : Int32} : x < y ↔ x.toInt < y.toInt := Int32.lt_iff_toInt_lt
theorem bI_0 {b : Bool} : bI b = 0 ↔ b = false := by cases b <;> decide
theorem bI_not {b : Bool} : ¬ bI b = 0 ↔ b = true := by cases b <;> decide
section MA9
variable {A E : Nat → Nat} {ls : Nat → List Nat} {nl nc nd : Nat} {S : Hp} {D : Dt} {G : Nat → Nat → Nat}
/-- what stays when only the refusal is noted -/
def Thr (c : Int32) (D D' : Dt) : Prop := SamG (fun i r => i = 549 ∧ r = 70) (fun _ => False) (fun _ => False) D D' ∧ D'.FI 549 70 = c
theorem Thr.tr {c c' : Int32} {D D' D'' : Dt} (h : Thr c D D') (h' : Thr c' D' D'') : Thr c' D D'' := ⟨h.1.tr h'.1, h'.2⟩
theorem Thr.AI {c : Int32} {D D' : Dt} (h : Thr c D D') : D'.AI = D.AI := funext fun r => h.1.2.1 r (fun q => q)
theorem Thr.AJ {c : Int32} {D D' : Dt} (h : Thr c D D') : D'.AJ = D.AJ := funext fun r => h.1.2.2 r (fun q => q)
theorem Thr.FI {c : Int32} {D D' : Dt} (h : Thr c D D') {i r : Nat} (hi : i ≠ 549) : D'.FI i r = D.FI i r := h.1.1 i r (fun q => hi q.1)
theorem t_isThrown {Φ : Hp → Int32 → Prop} {x c : Int32} (b : Bool) (h : Rep A E ls nl nc nd S D) (hx : x = bI b) (k0 : b = false → ∀ S' D', Rep A E ls nl nc nd S' D' → Thr 0 D D' → Φ S' 0) (k1 : b = true → ∀ S' D', Rep A E ls nl nc nd S' D' → Thr c D D' → Φ S' 1) : wX8_isThrown S (A 70) x c Φ := by
  have go : ∀ v, (∀ S' D', Rep A E ls nl nc nd S' D' → Thr v D D' → Φ S' x) → wX8_isThrown_b10 (A 70) x c Φ S (A 70) v := fun v k => by
    unfold wX8_isThrown_b10
    refine ⟨m_is h, fun S2 e2 => ⟨by rw [hx]; exact narrow_bI b, ?_⟩⟩
    have h2 := set_FI h (r := 70) (i := 549) v m_al (by decide)
    rw [← e2] at h2
    exact k S2 _ h2 ⟨samG_F ⟨rfl, rfl⟩, dtFI_s⟩
  unfold wX8_isThrown wX8_isThrown_b0
  cases b
  · rw [hx] at go ⊢
    exact if_p rfl (go 0 (k0 rfl))
  · rw [hx] at go ⊢
    exact if_n (by decide) (go c (k1 rfl))
theorem t_isIn {Φ : Hp → Int32 → Prop} {x lo hi : Int32} (k : Φ S (bI (decide (lo.toInt ≤ x.toInt ∧ x.toInt ≤ hi.toInt)))) : wX8_isIn S x lo hi Φ := by
  unfold wX8_isIn wX8_isIn_b0
  by_cases c : x < lo
  · have e : bI (decide (lo.toInt ≤ x.toInt ∧ x.toInt ≤ hi.toInt)) = 0 := bI_0.mpr (decide_eq_false (fun q => by have := ltI_iff.mp c; omega))
    rw [e] at k
    exact if_p c k
  · refine if_n c ?_
    have c' := fun q => c (ltI_iff.mpr q)
    by_cases c2 : hi < x
    · have e : bI (decide (lo.toInt ≤ x.toInt ∧ x.toInt ≤ hi.toInt)) = 0 := bI_0.mpr (decide_eq_false (fun q => by have := ltI_iff.mp c2; omega))
      rw [e] at k
      exact if_p c2 k
    · have e : bI (decide (lo.toInt ≤ x.toInt ∧ x.toInt ≤ hi.toInt)) = 1 := by
        have c2' := fun q => c2 (ltI_iff.mpr q)
        rw [decide_eq_true ⟨Int.not_lt.mp c', Int.not_lt.mp c2'⟩]
        rfl
      rw [e] at k
      exact if_n c2 k
theorem nI_m1 {n : Nat} (h : n < 2 ^ 30) : (nI n - 1).toInt = (n : Int) - 1 := by
  by_cases c : n = 0
  · rw [c]
    decide
  · obtain ⟨m, rfl⟩ : ∃ m, n = m + 1 := ⟨n - 1, by omega⟩
    rw [nI_pred, nI_toInt (by omega)]
    omega
/-- the four checks of a number -/
def inRb (x : Int32) (n : Nat) : Bool := decide (0 ≤ x.toInt ∧ x.toInt < (n : Int))
theorem inRb_t {x : Int32} {n : Nat} : inRb x n = true ↔ inR x n := by
  unfold inRb inR
  exact decide_eq_true_iff
theorem inRb_e {x : Int32} {n : Nat} (h : n < 2 ^ 30) : decide ((0 : Int32).toInt ≤ x.toInt ∧ x.toInt ≤ (nI n - 1).toInt) = inRb x n := by
  unfold inRb
  rw [nI_m1 h]
  have e : ((0 : Int32).toInt ≤ x.toInt ∧ x.toInt ≤ (n : Int) - 1) ↔ (0 ≤ x.toInt ∧ x.toInt < (n : Int)) := by
    show ((0 : Int) ≤ x.toInt ∧ x.toInt ≤ (n : Int) - 1) ↔ _
    omega
  by_cases c : (0 ≤ x.toInt ∧ x.toInt < (n : Int))
  · rw [decide_eq_true (e.mpr c), decide_eq_true c]
  · rw [decide_eq_false (fun q => c (e.mp q)), decide_eq_false c]
theorem bI_sw {Φ : Hp → Int32 → Prop} {b : Bool} (k : Φ S (bI (!b))) : (¬ bI b = 0 → Φ S 0) ∧ (bI b = 0 → Φ S 1) := by
  cases b
  · exact fi_p rfl k
  · exact fi_n (by decide) k
theorem t_isNoShaft {Φ : Hp → Int32 → Prop} {ns : Nat} {x : Int32} (h : Rep A E ls nl nc nd S D) (hns : D.FI 543 70 = nI ns) (h14 : ns ≤ 14) (k : Φ S (bI (!inRb x ns))) : wX8_isNoShaft S (A 70) x Φ := by
  have v : S.FI 543 (A 70) = nI ns := by
    rw [rep_FI h 543 (by decide) m_al]
    exact hns
  unfold wX8_isNoShaft wX8_isNoShaft_b0
  rw [v]
  refine ⟨m_is h, t_isIn ?_⟩
  rw [inRb_e (by omega)]
  exact bI_sw k
theorem t_isNoLink {Φ : Hp → Int32 → Prop} {n : Nat} {x : Int32} (h : Rep A E ls nl nc nd S D) (hn : D.FI 544 70 = nI n) (h14 : n ≤ 16) (k : Φ S (bI (!inRb x n))) : wX8_isNoLink S (A 70) x Φ := by
  have v : S.FI 544 (A 70) = nI n := by
    rw [rep_FI h 544 (by decide) m_al]
    exact hn
  unfold wX8_isNoLink wX8_isNoLink_b0
  rw [v]
  refine ⟨m_is h, t_isIn ?_⟩
  rw [inRb_e (by omega)]
  exact bI_sw k
theorem t_isNoCam {Φ : Hp → Int32 → Prop} {n : Nat} {x : Int32} (h : Rep A E ls nl nc nd S D) (hn : D.FI 545 70 = nI n) (h14 : n ≤ 16) (k : Φ S (bI (!inRb x n))) : wX8_isNoCam S (A 70) x Φ := by
  have v : S.FI 545 (A 70) = nI n := by
    rw [rep_FI h 545 (by decide) m_al]
    exact hn
  unfold wX8_isNoCam wX8_isNoCam_b0
  rw [v]
  refine ⟨m_is h, t_isIn ?_⟩
  rw [inRb_e (by omega)]
  exact bI_sw k
theorem t_isNoDrum {Φ : Hp → Int32 → Prop} {n : Nat} {x : Int32} (h : Rep A E ls nl nc nd S D) (hn : D.FI 546 70 = nI n) (h14 : n ≤ 16) (k : Φ S (bI (!inRb x n))) : wX8_isNoDrum S (A 70) x Φ := by
  have v : S.FI 546 (A 70) = nI n := by
    rw [rep_FI h 546 (by decide) m_al]
    exact hn
  unfold wX8_isNoDrum wX8_isNoDrum_b0
  rw [v]
  refine ⟨m_is h, t_isIn ?_⟩
  rw [inRb_e (by omega)]
  exact bI_sw k
theorem lkM_cg {D D' : Dt} (h : LkM G nl D) (e : ∀ r, 81 ≤ r → r < 87 → D'.AI r = D.AI r) : LkM G nl D' := by
  intro k hk
  rw [e 81 (by omega) (by omega), e 82 (by omega) (by omega), e 83 (by omega) (by omega), e 84 (by omega) (by omega), e 85 (by omega) (by omega), e 86 (by omega) (by omega)]
  exact h k hk
theorem drA_cg {ns r : Nat} {D D' : Dt} (h : DrA G nl ns r D) (e : D'.AI r = D.AI r) : DrA G nl ns r D' := fun s hs => by
  rw [e]
  exact h s hs
end MA9
