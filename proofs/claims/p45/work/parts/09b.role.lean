/-! THE PLACES: each object and array of the class and of the reference has a number (role); A tells its address -/
def Dt : Type := (Nat → Nat → Int32) × (Nat → Nat → Int64) × (Nat → Nat → Int32) × (Nat → Nat → Int64)
def Dt.mk (a : Nat → Nat → Int32) (b : Nat → Nat → Int64) (c : Nat → Nat → Int32) (d : Nat → Nat → Int64) : Dt := (a, b, c, d)
def Dt.FI (D : Dt) : Nat → Nat → Int32 := D.1
def Dt.FJ (D : Dt) : Nat → Nat → Int64 := D.2.1
def Dt.AI (D : Dt) : Nat → Nat → Int32 := D.2.2.1
def Dt.AJ (D : Dt) : Nat → Nat → Int64 := D.2.2.2
def Dt.setFI (D : Dt) (i r : Nat) (v : Int32) : Dt := Dt.mk (up2 D.FI i r v) D.FJ D.AI D.AJ
def Dt.setAI (D : Dt) (r i : Nat) (v : Int32) : Dt := Dt.mk D.FI D.FJ (up2 D.AI r i v) D.AJ
def Dt.setAJ (D : Dt) (r i : Nat) (v : Int64) : Dt := Dt.mk D.FI D.FJ D.AI (up2 D.AJ r i v)
theorem hpFI_s {S : Hp} {i a : Nat} {v : Int32} : (S.setFI i a v).FI i a = v := up2_s (f := S.FI)
theorem hpFI_n {S : Hp} {i a j b : Nat} {v : Int32} (h : ¬ (j = i ∧ b = a)) : (S.setFI i a v).FI j b = S.FI j b := up2_n (f := S.FI) h
theorem dtFI_s {S : Dt} {i a : Nat} {v : Int32} : (S.setFI i a v).FI i a = v := up2_s (f := S.FI)
theorem dtFI_n {S : Dt} {i a j b : Nat} {v : Int32} (h : ¬ (j = i ∧ b = a)) : (S.setFI i a v).FI j b = S.FI j b := up2_n (f := S.FI) h
theorem dtAI_s {S : Dt} {i a : Nat} {v : Int32} : (S.setAI i a v).AI i a = v := up2_s (f := S.AI)
theorem dtAI_n {S : Dt} {i a j b : Nat} {v : Int32} (h : ¬ (j = i ∧ b = a)) : (S.setAI i a v).AI j b = S.AI j b := up2_n (f := S.AI) h
theorem dtAJ_s {S : Dt} {i a : Nat} {v : Int64} : (S.setAJ i a v).AJ i a = v := up2_s (f := S.AJ)
theorem dtAJ_n {S : Dt} {i a j b : Nat} {v : Int64} (h : ¬ (j = i ∧ b = a)) : (S.setAJ i a v).AJ j b = S.AJ j b := up2_n (f := S.AJ) h
def kdr (r : Nat) : Nat :=
  if r = 0 then 7 else if r < 5 then 9 else if r < 7 then 21 else if r < 9 then 23 else if r < 20 then 4 else if r < 23 then 6 else if r < 63 then 22 else if r < 66 then 23 else if r = 70 then 8
  else if r < 78 then 22 else if r = 78 then 23 else if r < 81 then 21 else if r = 81 then 20 else if r < 87 then 21 else if r < 89 then 23 else if r < 91 then 21 else if r < 94 then 22 else if r < 96 then 21
  else if r < 98 then 26 else if r = 98 then 27 else if r = 99 then 26 else if r = 100 then 21 else if r = 101 then 29 else if r = 102 then 26 else if r = 110 then 22 else if r = 111 then 24
  else if r < 220 then 21 else if r < 230 then 20 else if r < 250 then 21 else if r < 260 then 28 else if r < 400 then 23 else if r < 500 then 5
  else if r < 600 then (if r < 501 then 20 else if r < 505 then 21 else 22)
  else (if (r - 600) % 3 = 0 then 2 else 21)
def ndr (r : Nat) : Nat :=
  if r < 5 then 0 else if r < 9 then 14 else if r < 23 then 0 else if r = 32 then 16 else if r = 33 then 16 else if r < 60 then 14 else if r < 66 then 16 else if r = 70 then 0
  else if r < 81 then 14 else if r < 94 then 16 else if r < 100 then 8 else if r < 103 then 4 else if r < 112 then 1 else if r < 240 then 24 else if r < 250 then 8 else if r < 260 then 24 else if r < 400 then 8 else if r < 500 then 0
  else if r < 600 then (if r < 503 then 4 else if r < 505 then 3 else if r < 507 then 5 else if r < 509 then 3 else if r < 510 then 2 else 5)
  else (if (r - 600) % 3 = 0 then 0 else if (r - 600) % 3 = 1 then 24 else 8)
/-- the numbers that stand from the constructors on -/
def sdr (r : Nat) : Bool := r < 23 || (30 ≤ r && r < 52) || (60 ≤ r && r < 66)
def al (nl nc nd r : Nat) : Prop := sdr r = true ∨ (400 ≤ r ∧ r < 400 + nl) ∨ (500 ≤ r ∧ r < 500 + nc) ∨ (600 ≤ r ∧ r < 600 + 3 * nd)
/-- the fields that bear references, and never change: field, whose, which -/
def rfT : List (Nat × Nat × Nat) := [(448, 0, 1), (449, 0, 2), (450, 0, 3), (451, 0, 4), (452, 0, 5), (453, 0, 6), (454, 0, 7), (455, 0, 8), (456, 0, 9), (457, 0, 10), (458, 0, 20), (459, 0, 21), (460, 0, 22), (384, 20, 11), (385, 20, 12), (386, 20, 13), (387, 20, 60), (388, 20, 63), (384, 21, 14), (385, 21, 15), (386, 21, 16), (387, 21, 61), (388, 21, 64), (384, 22, 17), (385, 22, 18), (386, 22, 19), (387, 22, 62), (388, 22, 65), (256, 9, 30), (257, 9, 31), (256, 10, 32), (257, 10, 33), (256, 11, 34), (257, 11, 35), (256, 12, 36), (257, 12, 37), (256, 13, 38), (257, 13, 39), (256, 14, 40), (257, 14, 41), (256, 15, 42), (257, 15, 43), (256, 16, 44), (257, 16, 45), (256, 17, 46), (257, 17, 47), (256, 18, 48), (257, 18, 49), (256, 19, 50), (257, 19, 51)]
/-- a list at a with its row at e: what it holds -/
def Lst (S : Hp) (a e : Nat) (xs : List Nat) : Prop := S.FI 578 a = nI xs.length ∧ S.FR 577 a = some e ∧ ((e = S.T 0 ∧ xs = []) ∨ (isA S e 25 ∧ e ≠ S.T 0 ∧ xs.length ≤ S.N e ∧ (S.N e = 10 ∨ S.N e = 15) ∧ (∀ i x, xs[i]? = some x → S.AR e i = some x) ∧ ∀ i, i < S.N e → ∀ y, S.AR e i = some y → isEl S y))
def Lay (A E : Nat → Nat) (ls : Nat → List Nat) (nl nc nd : Nat) (S : Hp) : Prop :=
  (∀ r r', A r = A r' → r = r') ∧
  (∀ r, al nl nc nd r → isA S (A r) (kdr r) ∧ S.N (A r) = ndr r) ∧
  (∀ x ∈ rfT, S.FR x.1 (A x.2.1) = some (A x.2.2)) ∧
  True ∧ True ∧ True ∧ True ∧
  (∀ j, j < 4 → Lst S (A (1 + j)) (E j) (ls j)) ∧
  (∀ i j, i < 4 → j < 4 → i ≠ j → E i = E j → E i = S.T 0)
def Dat (A : Nat → Nat) (nl nc nd : Nat) (S : Hp) (D : Dt) : Prop := ∀ r, al nl nc nd r → (∀ i, i < 576 → S.FI i (A r) = D.FI i r) ∧ (∀ i, S.FJ i (A r) = D.FJ i r) ∧ (∀ i, S.AI (A r) i = D.AI r i) ∧ ∀ i, S.AJ (A r) i = D.AJ r i
def Rep (A E : Nat → Nat) (ls : Nat → List Nat) (nl nc nd : Nat) (S : Hp) (D : Dt) : Prop := Lay A E ls nl nc nd S ∧ Dat A nl nc nd S D
set_option maxRecDepth 100000 in
theorem kdr_25 (r : Nat) : kdr r ≠ 25 := by
  by_cases h : r < 600
  · have key : ∀ r, r < 600 → kdr r ≠ 25 := by decide +kernel
    exact key r h
  · have e : kdr r = if (r - 600) % 3 = 0 then 2 else 21 := by
      unfold kdr
      rw [if_neg (show ¬ r = 0 by omega), if_neg (show ¬ r < 5 by omega), if_neg (show ¬ r < 7 by omega), if_neg (show ¬ r < 9 by omega), if_neg (show ¬ r < 20 by omega), if_neg (show ¬ r < 23 by omega), if_neg (show ¬ r < 63 by omega), if_neg (show ¬ r < 66 by omega), if_neg (show ¬ r = 70 by omega), if_neg (show ¬ r < 78 by omega), if_neg (show ¬ r = 78 by omega), if_neg (show ¬ r < 81 by omega), if_neg (show ¬ r = 81 by omega), if_neg (show ¬ r < 87 by omega), if_neg (show ¬ r < 89 by omega), if_neg (show ¬ r < 91 by omega), if_neg (show ¬ r < 94 by omega), if_neg (show ¬ r < 96 by omega), if_neg (show ¬ r < 98 by omega), if_neg (show ¬ r = 98 by omega), if_neg (show ¬ r = 99 by omega), if_neg (show ¬ r = 100 by omega), if_neg (show ¬ r = 101 by omega), if_neg (show ¬ r = 102 by omega), if_neg (show ¬ r = 110 by omega), if_neg (show ¬ r = 111 by omega), if_neg (show ¬ r < 220 by omega), if_neg (show ¬ r < 230 by omega), if_neg (show ¬ r < 250 by omega), if_neg (show ¬ r < 260 by omega), if_neg (show ¬ r < 400 by omega), if_neg (show ¬ r < 500 by omega), if_neg (show ¬ r < 600 by omega)]
    rw [e]
    by_cases c : (r - 600) % 3 = 0
    · rw [if_pos c]
      decide
    · rw [if_neg c]
      decide
section RP
variable {A E : Nat → Nat} {ls : Nat → List Nat} {nl nc nd : Nat} {S : Hp} {D : Dt}
theorem al_s {r : Nat} (h : sdr r = true) : al nl nc nd r := Or.inl h
theorem al_l {k : Nat} (h : k < nl) : al nl nc nd (400 + k) := Or.inr (Or.inl ⟨by omega, by omega⟩)
theorem al_c {c : Nat} (h : c < nc) : al nl nc nd (500 + c) := Or.inr (Or.inr (Or.inl ⟨by omega, by omega⟩))
theorem al_d {d j : Nat} (h : d < nd) (hj : j < 3) : al nl nc nd (600 + j + 3 * d) := Or.inr (Or.inr (Or.inr ⟨by omega, by omega⟩))
theorem rep_in (h : Rep A E ls nl nc nd S D) (r r' : Nat) : A r = A r' ↔ r = r' := ⟨h.1.1 r r', fun e => by rw [e]⟩
theorem rep_is (h : Rep A E ls nl nc nd S D) {r k : Nat} (hr : al nl nc nd r) (hk : kdr r = k) : isA S (A r) k := by
  have h1 := (h.1.2.1 r hr).1
  rw [hk] at h1
  exact h1
theorem rep_N (h : Rep A E ls nl nc nd S D) {r n : Nat} (hr : al nl nc nd r) (hk : ndr r = n) : S.N (A r) = n := by
  rw [(h.1.2.1 r hr).2, hk]
theorem rep_fr (h : Rep A E ls nl nc nd S D) (x : Nat × Nat × Nat) (hx : x ∈ rfT) : S.FR x.1 (A x.2.1) = some (A x.2.2) := h.1.2.2.1 x hx
theorem rep_FI (h : Rep A E ls nl nc nd S D) {r : Nat} (i : Nat) (hi : i < 576) (hr : al nl nc nd r) : S.FI i (A r) = D.FI i r := (h.2 r hr).1 i hi
theorem rep_AI (h : Rep A E ls nl nc nd S D) {r : Nat} (i : Nat) (hr : al nl nc nd r) : S.AI (A r) i = D.AI r i := (h.2 r hr).2.2.1 i
theorem rep_AJ (h : Rep A E ls nl nc nd S D) {r : Nat} (i : Nat) (hr : al nl nc nd r) : S.AJ (A r) i = D.AJ r i := (h.2 r hr).2.2.2 i
theorem rep_ls (h : Rep A E ls nl nc nd S D) {j : Nat} (hj : j < 4) : Lst S (A (1 + j)) (E j) (ls j) := h.1.2.2.2.2.2.2.2.1 j hj
/-! writing -/
theorem set_AI (h : Rep A E ls nl nc nd S D) {r : Nat} (i : Nat) (v : Int32) (_hr : al nl nc nd r) : Rep A E ls nl nc nd (S.setAI (A r) i v) (D.setAI r i v) := by
  refine ⟨h.1, fun r' hr' => ?_⟩
  obtain ⟨h1, h2, h3, h4⟩ := h.2 r' hr'
  refine ⟨h1, h2, fun j => ?_, h4⟩
  show up2 S.AI (A r) i v (A r') j = up2 D.AI r i v r' j
  unfold up2
  simp only [rep_in h r' r, h3 j]
theorem set_AJ (h : Rep A E ls nl nc nd S D) {r : Nat} (i : Nat) (v : Int64) (_hr : al nl nc nd r) : Rep A E ls nl nc nd (S.setAJ (A r) i v) (D.setAJ r i v) := by
  refine ⟨h.1, fun r' hr' => ?_⟩
  obtain ⟨h1, h2, h3, h4⟩ := h.2 r' hr'
  refine ⟨h1, h2, h3, fun j => ?_⟩
  show up2 S.AJ (A r) i v (A r') j = up2 D.AJ r i v r' j
  unfold up2
  simp only [rep_in h r' r, h4 j]
theorem lst_FI {a e : Nat} {xs : List Nat} {i b : Nat} {v : Int32} (hi : i ≠ 578) (h : Lst S a e xs) : Lst (S.setFI i b v) a e xs := by
  obtain ⟨h1, h2, h3⟩ := h
  refine ⟨?_, h2, h3⟩
  show up2 S.FI i b v 578 a = _
  rw [up2_n (fun q => hi q.1.symm)]
  exact h1
theorem lay_FI {i b : Nat} {v : Int32} (hi : i ≠ 578) (h : Lay A E ls nl nc nd S) : Lay A E ls nl nc nd (S.setFI i b v) := by
  obtain ⟨h1, h2, h3, h4, h5, h6, h7, h8, h9⟩ := h
  exact ⟨h1, h2, h3, h4, h5, h6, h7, fun j hj => lst_FI hi (h8 j hj), h9⟩
theorem set_FI (h : Rep A E ls nl nc nd S D) {r i : Nat} (v : Int32) (_hr : al nl nc nd r) (hi : i < 576) : Rep A E ls nl nc nd (S.setFI i (A r) v) (D.setFI i r v) := by
  refine ⟨lay_FI (by omega) h.1, fun r' hr' => ?_⟩
  obtain ⟨h1, h2, h3, h4⟩ := h.2 r' hr'
  refine ⟨fun j hj => ?_, h2, h3, h4⟩
  show up2 S.FI i (A r) v j (A r') = up2 D.FI i r v j r'
  unfold up2
  simp only [rep_in h r' r, h1 j hj]
/-- what lies at no number may change -/
def off (A : Nat → Nat) (nl nc nd : Nat) (q : Nat) : Prop := ∀ r, al nl nc nd r → A r ≠ q
theorem off_FI (h : Rep A E ls nl nc nd S D) {q i : Nat} (v : Int32) (hq : off A nl nc nd q) (hi : i ≠ 578) : Rep A E ls nl nc nd (S.setFI i q v) D := by
  refine ⟨lay_FI hi h.1, fun r' hr' => ?_⟩
  obtain ⟨h1, h2, h3, h4⟩ := h.2 r' hr'
  refine ⟨fun j hj => ?_, h2, h3, h4⟩
  show up2 S.FI i q v j (A r') = _
  rw [up2_n (fun e => hq r' hr' e.2)]
  exact h1 j hj
theorem off_AI (h : Rep A E ls nl nc nd S D) {q i : Nat} (v : Int32) (hq : off A nl nc nd q) : Rep A E ls nl nc nd (S.setAI q i v) D := by
  refine ⟨h.1, fun r' hr' => ?_⟩
  obtain ⟨h1, h2, h3, h4⟩ := h.2 r' hr'
  refine ⟨h1, h2, fun j => ?_, h4⟩
  show up2 S.AI q i v (A r') j = _
  rw [up2_n (fun e => hq r' hr' e.1)]
  exact h3 j
theorem rep_AD (h : Rep A E ls nl nc nd S D) (q i : Nat) (v : UInt64) : Rep A E ls nl nc nd (S.setAD q i v) D := ⟨h.1, h.2⟩
theorem lst_new {a e : Nat} {xs : List Nat} {q k n : Nat} (hq : q ∉ S.L) (ha : a ∈ S.L) (h : Lst S a e xs) : Lst (S.new q k n) a e xs := by
  obtain ⟨h1, h2, h3⟩ := h
  have haq : a ≠ q := fun e => hq (e ▸ ha)
  refine ⟨?_, ?_, ?_⟩
  · show (if a = q then 0 else S.FI 578 a) = _
    rw [if_neg haq]
    exact h1
  · show (if a = q then none else S.FR 577 a) = _
    rw [if_neg haq]
    exact h2
  · rcases h3 with h3 | ⟨h3, h4, h5, h6, h8, h9⟩
    · exact Or.inl h3
    · have he : e ≠ q := fun e9 => hq (e9 ▸ h3.1)
      have hN : (S.new q k n).N e = S.N e := va_up_ne _ _ he
      have hR : (S.new q k n).AR e = S.AR e := va_up_ne _ _ he
      refine Or.inr ⟨new_old hq h3, h4, by rw [hN]; exact h5, by rw [hN]; exact h6, fun i x hx => by rw [hR]; exact h8 i x hx, fun i hi y hy => ?_⟩
      rw [hN] at hi
      rw [hR] at hy
      rcases h9 i hi y hy with h | h | h
      · exact Or.inl (new_old hq h)
      · exact Or.inr (Or.inl (new_old hq h))
      · exact Or.inr (Or.inr (new_old hq h))
theorem al_sub {nl' nc' nd' r : Nat} (h1 : nl ≤ nl') (h2 : nc ≤ nc') (h3 : nd ≤ nd') (h : al nl nc nd r) : al nl' nc' nd' r := by
  rcases h with h | h | h | h
  · exact Or.inl h
  · exact Or.inr (Or.inl ⟨h.1, by omega⟩)
  · exact Or.inr (Or.inr (Or.inl ⟨h.1, by omega⟩))
  · exact Or.inr (Or.inr (Or.inr ⟨h.1, by omega⟩))
theorem off_new (h : Rep A E ls nl nc nd S D) {q : Nat} (hq : q ∉ S.L) : off A nl nc nd q := fun r hr e => hq (e ▸ (h.1.2.1 r hr).1.1)
theorem rep_new (h : Rep A E ls nl nc nd S D) {q : Nat} (k n : Nat) (hq : q ∉ S.L) : Rep A E ls nl nc nd (S.new q k n) D := by
  have hoff := off_new h hq
  obtain ⟨⟨h1, h2, h3, h4, h5, h6, h7, h8, h9⟩, hD⟩ := h
  have fr : ∀ r, al nl nc nd r → ∀ i, (S.new q k n).FR i (A r) = S.FR i (A r) := fun r hr i => if_neg (hoff r hr)
  have ar : ∀ r, al nl nc nd r → (S.new q k n).AR (A r) = S.AR (A r) := fun r hr => va_up_ne _ _ (hoff r hr)
  refine ⟨⟨h1, fun r hr => ⟨new_old hq (h2 r hr).1, ?_⟩, fun x hx => ?_, trivial, trivial, trivial, trivial, fun j hj => ?_, h9⟩, fun r hr => ?_⟩
  · show va_up S.N q n (A r) = _
    rw [va_up_ne _ _ (hoff r hr)]
    exact (h2 r hr).2
  · have hs : ∀ x ∈ rfT, sdr x.2.1 = true := by decide
    rw [fr _ (al_s (hs x hx))]
    exact h3 x hx
  · have hs : ∀ j, j < 4 → sdr (1 + j) = true := by decide
    exact lst_new hq (h2 _ (al_s (hs j hj))).1.1 (h8 j hj)
  · obtain ⟨g1, g2, g3, g4⟩ := hD r hr
    have hne := hoff r hr
    refine ⟨fun i hi => ?_, fun i => ?_, fun i => ?_, fun i => ?_⟩
    · show (if A r = q then 0 else S.FI i (A r)) = _
      rw [if_neg hne]
      exact g1 i hi
    · show (if A r = q then 0 else S.FJ i (A r)) = _
      rw [if_neg hne]
      exact g2 i
    · show va_up S.AI q (fun _ => 0) (A r) i = _
      rw [va_up_ne _ _ hne]
      exact g3 i
    · show va_up S.AJ q (fun _ => 0) (A r) i = _
      rw [va_up_ne _ _ hne]
      exact g4 i
/-- an address at a new number -/
theorem swap_A (A : Nat → Nat) (r0 q : Nat) (hA : ∀ r r', A r = A r' → r = r') : ∃ A' : Nat → Nat, (∀ r r', A' r = A' r' → r = r') ∧ A' r0 = q ∧ ∀ r, r ≠ r0 → A r ≠ q → A' r = A r := by
  refine ⟨fun r => if r = r0 then q else if A r = q then A r0 else A r, fun r r' e => ?_, if_pos rfl, fun r h1 h2 => ?_⟩
  · dsimp only at e
    by_cases h1 : r = r0
    · by_cases h2 : r' = r0
      · rw [h1, h2]
      · rw [if_pos h1, if_neg h2] at e
        by_cases h3 : A r' = q
        · rw [if_pos h3] at e
          exact absurd (hA _ _ (h3.trans e)) h2
        · rw [if_neg h3] at e
          exact absurd e.symm h3
    · rw [if_neg h1] at e
      by_cases h2 : r' = r0
      · rw [if_pos h2] at e
        by_cases h3 : A r = q
        · rw [if_pos h3] at e
          exact absurd (hA _ _ (h3.trans e.symm)) h1
        · rw [if_neg h3] at e
          exact absurd e h3
      · rw [if_neg h2] at e
        by_cases h3 : A r = q
        · rw [if_pos h3] at e
          by_cases h4 : A r' = q
          · exact hA _ _ (h3.trans h4.symm)
          · rw [if_neg h4] at e
            exact absurd (hA _ _ e).symm h2
        · rw [if_neg h3] at e
          by_cases h4 : A r' = q
          · rw [if_pos h4] at e
            exact absurd (hA _ _ e) h1
          · rw [if_neg h4] at e
            exact hA _ _ e
  · dsimp only
    rw [if_neg h1, if_neg h2]
end RP
