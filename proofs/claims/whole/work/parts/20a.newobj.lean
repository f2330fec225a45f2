/-! CAMS AND DRUMS COME TO LIFE -/
def Dt.putw (D : Dt) (nw : Nat → Bool) (A : Nat → Nat) (S : Hp) : Dt := Dt.mk (fun i r => if nw r = true then S.FI i (A r) else D.FI i r) (fun i r => if nw r = true then S.FJ i (A r) else D.FJ i r) (fun r i => if nw r = true then S.AI (A r) i else D.AI r i) (fun r i => if nw r = true then S.AJ (A r) i else D.AJ r i)
theorem kN_fresh {S : Hp} {q k n : Nat} : isA (S.new q k n) q k ∧ (S.new q k n).N q = n ∧ (∀ i, (S.new q k n).FI i q = 0) ∧ ∀ i, (S.new q k n).AI q i = 0 := by
  refine ⟨new_isA, va_up_self _ _ _, fun i => if_pos rfl, fun i => ?_⟩
  show va_up S.AI q (fun _ => 0) q i = 0
  rw [va_up_self]
/-- what a fresh object leaves as it was, and a reference set -/
def Kp2 (S S' : Hp) : Prop := (∀ b k, isA S b k → isA S' b k) ∧ ∀ b, b ∈ S.L → S'.N b = S.N b ∧ (∀ i, S'.FI i b = S.FI i b) ∧ (S'.AI b = S.AI b) ∧ b ∈ S'.L
theorem Kp2.tr {S S' S'' : Hp} (h : Kp2 S S') (h' : Kp2 S' S'') : Kp2 S S'' := ⟨fun b k hb => h'.1 b k (h.1 b k hb), fun b hb => by
  obtain ⟨a1, a2, a3, a4⟩ := h.2 b hb
  obtain ⟨b1, b2, b3, b4⟩ := h'.2 b a4
  exact ⟨b1.trans a1, fun i => (b2 i).trans (a2 i), b3.trans a3, b4⟩⟩
theorem kp2_new {S : Hp} {q k n : Nat} (hq : q ∉ S.L) : Kp2 S (S.new q k n) := ⟨fun b k2 hb => new_old (n := n) hq hb, fun b hb => by
  have hne : b ≠ q := fun e => hq (e ▸ hb)
  exact ⟨va_up_ne _ _ hne, fun i => if_neg hne, va_up_ne _ _ hne, List.mem_append_left _ hb⟩⟩
theorem kp2_FR {S : Hp} {a i : Nat} {v : Option Nat} : Kp2 S (S.setFR i a v) := ⟨fun _ _ h => h, fun _ hb => ⟨rfl, fun _ => rfl, rfl, hb⟩⟩
section NO9
variable {A A' E : Nat → Nat} {ls : Nat → List Nat} {nl nc nd : Nat} {S : Hp} {D : Dt}
theorem rep_addg {nw : Nat → Bool} {nc' nd' : Nat} (h : Rep A E ls nl nc nd S D) (hi : ∀ r r', A' r = A' r' → r = r') (he : ∀ r, al nl nc nd r → A' r = A r) (hs : ∀ r, al nl nc' nd' r → al nl nc nd r ∨ nw r = true) (hx : ∀ r, al nl nc nd r → ¬ nw r = true)
    (hk : ∀ r, nw r = true → isA S (A' r) (kdr r) ∧ S.N (A' r) = ndr r)
    (hc : ∀ c, c < nc' → ¬ c < nc → S.FR 65 (A' (500 + 5 * c)) = some (A' (501 + 5 * c)) ∧ S.FR 66 (A' (500 + 5 * c)) = some (A' (502 + 5 * c)) ∧ S.FR 67 (A' (500 + 5 * c)) = some (A' (503 + 5 * c)) ∧ S.FR 68 (A' (500 + 5 * c)) = some (A' (504 + 5 * c)))
    (hd : ∀ d, d < nd' → ¬ d < nd → S.FR 129 (A' (600 + 3 * d)) = some (A' (601 + 3 * d)) ∧ S.FR 130 (A' (600 + 3 * d)) = some (A' (602 + 3 * d))) : Rep A' E ls nl nc' nd' S (D.putw nw A' S) := by
  have h' := rep_re h hi he
  obtain ⟨⟨h1, h2, h3, h4, h5, h6, h7, h8, h9⟩, hD⟩ := h'
  refine ⟨⟨h1, fun r hr => ?_, h3, h4, h5, fun c hcc => ?_, fun d hdd => ?_, h8, h9⟩, fun r hr => ?_⟩
  · rcases hs r hr with c | c
    · exact h2 r c
    · exact hk r c
  · by_cases c0 : c < nc
    · exact h6 c c0
    · exact hc c hcc c0
  · by_cases c0 : d < nd
    · exact h7 d c0
    · exact hd d hdd c0
  · by_cases c : nw r = true
    · exact ⟨fun i _ => (if_pos c).symm, fun i => (if_pos c).symm, fun i => (if_pos c).symm, fun i => (if_pos c).symm⟩
    · obtain ⟨g1, g2, g3, g4⟩ := hD r ((hs r hr).resolve_right c)
      exact ⟨fun i hi => (g1 i hi).trans (if_neg c).symm, fun i => (g2 i).trans (if_neg c).symm, fun i => (g3 i).trans (if_neg c).symm, fun i => (g4 i).trans (if_neg c).symm⟩
/-- several numbers are given out at once -/
theorem swap_L (hA : ∀ r r', A r = A r' → r = r') : ∀ l : List (Nat × Nat), (∀ x, x ∈ l → ∀ y, y ∈ l → (x.1 = y.1 ↔ x.2 = y.2)) → ∃ A' : Nat → Nat, (∀ r r', A' r = A' r' → r = r') ∧ (∀ x, x ∈ l → A' x.1 = x.2) ∧ ∀ r, (∀ x, x ∈ l → r ≠ x.1 ∧ A r ≠ x.2) → A' r = A r
  | [], _ => ⟨A, hA, fun x hx => absurd hx (by simp), fun r _ => rfl⟩
  | z :: l, hl => by
    obtain ⟨A1, i1, i2, i3⟩ := swap_L hA l (fun x hx y hy => hl x (List.mem_cons_of_mem _ hx) y (List.mem_cons_of_mem _ hy))
    obtain ⟨A2, j1, j2, j3⟩ := swap_A A1 z.1 z.2 i1
    refine ⟨A2, j1, fun x hx => ?_, fun r hr => ?_⟩
    · by_cases c : x.1 = z.1
      · have := (hl x hx z (List.mem_cons_self)).mp c
        rw [c, j2, this]
      · rcases List.mem_cons.mp hx with e | hx'
        · rw [e] at c
          exact absurd rfl c
        · rw [j3 x.1 c, i2 x hx']
          rw [i2 x hx']
          exact fun q => c ((hl x hx z (List.mem_cons_self)).mpr q)
    · have hz := hr z (List.mem_cons_self)
      have e1 : A1 r = A r := i3 r (fun x hx => hr x (List.mem_cons_of_mem _ hx))
      rw [j3 r hz.1 (by rw [e1]; exact hz.2), e1]
/-- a new cam's numbers -/
def nwC (k : Nat) (r : Nat) : Bool := decide (500 + 5 * k ≤ r) && decide (r < 505 + 5 * k)
def nwD (k : Nat) (r : Nat) : Bool := decide (600 + 3 * k ≤ r) && decide (r < 603 + 3 * k)
theorem nwC_e {k r : Nat} : nwC k r = true ↔ 500 + 5 * k ≤ r ∧ r < 505 + 5 * k := by
  unfold nwC
  rw [Bool.and_eq_true, decide_eq_true_eq, decide_eq_true_eq]
theorem nwD_e {k r : Nat} : nwD k r = true ↔ 600 + 3 * k ≤ r ∧ r < 603 + 3 * k := by
  unfold nwD
  rw [Bool.and_eq_true, decide_eq_true_eq, decide_eq_true_eq]
theorem al_nwC {r : Nat} (hl : nl ≤ 14) (h : al nl nc nd r) (h8 : nc < 8) : ¬ nwC nc r = true := fun q => by
  have q1 := nwC_e.mp q
  have := al_400 h (by omega)
  omega
theorem al_nwD {r : Nat} (hl : nl ≤ 14) (h : al nl nc nd r) (h8 : nc ≤ 8) : ¬ nwD nd r = true := fun q => by
  have q1 := nwD_e.mp q
  have := al_400 h (by omega)
  omega
theorem al_sC {r : Nat} (h : al nl (nc + 1) nd r) : al nl nc nd r ∨ nwC nc r = true := by
  rcases h with g | g | g | g
  · exact Or.inl (Or.inl g)
  · exact Or.inl (Or.inr (Or.inl g))
  · by_cases c : r < 500 + 5 * nc
    · exact Or.inl (Or.inr (Or.inr (Or.inl ⟨g.1, c⟩)))
    · exact Or.inr (nwC_e.mpr ⟨by omega, by omega⟩)
  · exact Or.inl (Or.inr (Or.inr (Or.inr g)))
theorem al_sD {r : Nat} (h : al nl nc (nd + 1) r) : al nl nc nd r ∨ nwD nd r = true := by
  rcases h with g | g | g | g
  · exact Or.inl (Or.inl g)
  · exact Or.inl (Or.inr (Or.inl g))
  · exact Or.inl (Or.inr (Or.inr (Or.inl g)))
  · by_cases c : r < 600 + 3 * nd
    · exact Or.inl (Or.inr (Or.inr (Or.inr ⟨g.1, c⟩)))
    · exact Or.inr (nwD_e.mpr ⟨by omega, by omega⟩)
/-- a drum is made -/
theorem p_newDrum {Φ : Hp → Prop} {a : Nat} {x : Int32} (h : Rep A E ls nl nc nd S D) (hl : nl ≤ 14) (h8 : nc ≤ 8) (h4 : nd < 4) (ha : a ∉ S.L)
    (kk : ∀ S' A', Rep A' E ls nl nc (nd + 1) S' (D.putw (nwD nd) A' S') → (∀ r, al nl nc nd r → A' r = A r) → A' (600 + 3 * nd) = a → S'.FI 128 (A' (600 + 3 * nd)) = x → (∀ i, S'.AI (A' (601 + 3 * nd)) i = 0) → (∀ i, S'.AI (A' (602 + 3 * nd)) i = 0) → Φ S') : wX2_init (S.new a 2 0) a x Φ := by
  unfold wX2_init wX2_init_b0
  have z0 := kN_fresh (S := S) (q := a) (k := 2) (n := 0)
  have r0 := rep_new h 2 0 ha
  have off0 := off_new h ha
  generalize S.new a 2 0 = S0 at *
  intro b S2 hb e2
  have z1 := kN_fresh (S := S0) (q := b) (k := 21) (n := 24)
  have k1 := kp2_new (S := S0) (q := b) (k := 21) (n := 24) hb
  have r1 := rep_new r0 21 24 hb
  have off1 := off_new r0 hb
  rw [← e2] at z1 k1 r1
  have hab : b ≠ a := fun e => hb (e ▸ z0.1.1)
  refine ⟨k1.1 _ _ z0.1, fun S4 e4 => ?_⟩
  have r4 : Rep A E ls nl nc nd S4 D := by
    rw [e4]
    exact off_FR r1 _ off0
  have k4 : Kp2 S2 S4 := by
    rw [e4]
    exact kp2_FR
  have f4 : S4.FR 129 a = some b := by
    rw [e4]
    exact hpFR_s
  intro c S6 hc e6
  have z2 := kN_fresh (S := S4) (q := c) (k := 21) (n := 8)
  have k6 := kp2_new (S := S4) (q := c) (k := 21) (n := 8) hc
  have r6 := rep_new r4 21 8 hc
  have off2 := off_new r4 hc
  have hca : c ≠ a := fun e => hc (e ▸ (k1.tr k4).1 _ _ z0.1 |>.1)
  have hcb : c ≠ b := fun e => hc (e ▸ k4.1 _ _ z1.1 |>.1)
  have f6 : S6.FR 129 a = some b := by
    rw [e6]
    exact (if_neg (fun q => hca q.symm)).trans f4
  rw [← e6] at z2 k6 r6
  intro S7 e7 S8 e8
  have f7 : S8.FR 129 a = some b ∧ S8.FR 130 a = some c := by
    rw [e8, e7]
    exact ⟨(hpFR_n (by omega)).trans f6, hpFR_s⟩
  have r7 : Rep A E ls nl nc nd S7 D := by
    rw [e7]
    exact off_FR r6 _ off0
  have r8 : Rep A E ls nl nc nd S8 D := by
    rw [e8]
    exact off_FI r7 _ off0 (by decide)
  have k7 : Kp2 S6 S7 := by
    rw [e7]
    exact kp2_FR
  have ka := ((k1.tr k4).tr k6).tr k7
  have kb := (k4.tr k6).tr k7
  have a8 : isA S8 a 2 ∧ S8.N a = 0 ∧ S8.FI 128 a = x := by
    rw [e8]
    exact ⟨ka.1 _ _ z0.1, (ka.2 a z0.1.1).1.trans z0.2.1, hpFI_s⟩
  have b8 : isA S8 b 21 ∧ S8.N b = 24 ∧ ∀ i, S8.AI b i = 0 := by
    rw [e8]
    exact ⟨kb.1 _ _ z1.1, (kb.2 b z1.1.1).1.trans z1.2.1, fun i => by
      show S7.AI b i = 0
      rw [(kb.2 b z1.1.1).2.2.1]
      exact z1.2.2.2 i⟩
  have c8 : isA S8 c 21 ∧ S8.N c = 8 ∧ ∀ i, S8.AI c i = 0 := by
    rw [e8]
    exact ⟨k7.1 _ _ z2.1, (k7.2 c z2.1.1).1.trans z2.2.1, fun i => by
      show S7.AI c i = 0
      rw [(k7.2 c z2.1.1).2.2.1]
      exact z2.2.2.2 i⟩
  obtain ⟨A', i1, i2, i3⟩ := swap_L h.1.1 [(600 + 3 * nd, a), (601 + 3 * nd, b), (602 + 3 * nd, c)] (fun x hx y hy => by
    simp only [List.mem_cons, List.not_mem_nil, or_false] at hx hy
    rcases hx with rfl | rfl | rfl <;> rcases hy with rfl | rfl | rfl <;> constructor <;> intro q <;> first | rfl | (exact absurd q (by omega)) | (exact absurd q hab) | (exact absurd q hab.symm) | (exact absurd q hca) | (exact absurd q hca.symm) | (exact absurd q hcb) | (exact absurd q hcb.symm))
  have e0 : A' (600 + 3 * nd) = a := i2 (600 + 3 * nd, a) (by simp)
  have e1 : A' (601 + 3 * nd) = b := i2 (601 + 3 * nd, b) (by simp)
  have e2 : A' (602 + 3 * nd) = c := i2 (602 + 3 * nd, c) (by simp)
  have same : ∀ r, al nl nc nd r → A' r = A r := fun r hr => i3 r (fun x hx => by
    have hn := al_nwD hl hr h8
    have hn' : ¬ (600 + 3 * nd ≤ r ∧ r < 603 + 3 * nd) := fun q => hn (nwD_e.mpr q)
    simp only [List.mem_cons, List.not_mem_nil, or_false] at hx
    rcases hx with rfl | rfl | rfl
    · exact ⟨by omega, off0 r hr⟩
    · exact ⟨by omega, off1 r hr⟩
    · exact ⟨by omega, off2 r hr⟩)
  have t1 : ∀ d, d < 4 → kdr (600 + 3 * d) = 2 ∧ kdr (601 + 3 * d) = 21 ∧ kdr (602 + 3 * d) = 21 ∧ ndr (600 + 3 * d) = 0 ∧ ndr (601 + 3 * d) = 24 ∧ ndr (602 + 3 * d) = 8 := by decide
  obtain ⟨q0, q1, q2, w0, w1, w2⟩ := t1 nd h4
  refine kk S8 A' (rep_addg r8 i1 same (fun r hr => al_sD hr) (fun r hr => al_nwD hl hr h8) (fun r hr => ?_) (fun c' g1 g2 => absurd g1 g2) (fun d g1 g2 => ?_)) same e0 (by rw [e0]; exact a8.2.2) (fun i => by rw [e1]; exact b8.2.2 i) (fun i => by rw [e2]; exact c8.2.2 i)
  · have hr' := nwD_e.mp hr
    rcases (show r = 600 + 3 * nd ∨ r = 601 + 3 * nd ∨ r = 602 + 3 * nd by omega) with e | e | e <;> rw [e]
    · rw [e0, q0, w0]
      exact ⟨a8.1, a8.2.1⟩
    · rw [e1, q1, w1]
      exact ⟨b8.1, b8.2.1⟩
    · rw [e2, q2, w2]
      exact ⟨c8.1, c8.2.1⟩
  · have ed : d = nd := by omega
    rw [ed, e0, e1, e2]
    exact f7
end NO9
