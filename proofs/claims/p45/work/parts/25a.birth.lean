/-! THE CONSTRUCTORS: what is born, step by step -/
def bu (b : Nat → Bool) (r0 : Nat) : Nat → Bool := fun r => if r = r0 then true else b r
def au (A : Nat → Nat) (r0 a : Nat) : Nat → Nat := fun r => if r = r0 then a else A r
def fu (F : Nat → Nat → Option Nat) (i r : Nat) (r' : Nat) : Nat → Nat → Option Nat := fun j s => if j = i ∧ s = r then some r' else F j s
/-- what is born is numbered, typed, and holds the data -/
def Pre (b : Nat → Bool) (F R : Nat → Nat → Option Nat) (X : Nat → Bool) (A : Nat → Nat) (S : Hp) (D : Dt) : Prop :=
  (∀ r r', b r = true → b r' = true → A r = A r' → r = r') ∧
  (∀ r, b r = true → isA S (A r) (kdr r) ∧ S.N (A r) = ndr r ∧ S.FI 578 (A r) = 0) ∧
  (∀ i r r', F i r = some r' → b r = true ∧ b r' = true ∧ i ≠ 577 ∧ S.FR i (A r) = some (A r')) ∧
  (∀ r i r', R r i = some r' → b r = true ∧ b r' = true ∧ S.AR (A r) i = some (A r')) ∧
  (∀ r, X r = true → b r = true ∧ S.FR 577 (A r) = some (S.T 0)) ∧
  (∀ r, b r = true → (∀ i, i < 576 → S.FI i (A r) = D.FI i r) ∧ (∀ i, S.FJ i (A r) = D.FJ i r) ∧ (∀ i, S.AI (A r) i = D.AI r i) ∧ ∀ i, S.AJ (A r) i = D.AJ r i) ∧
  (∀ r, b r = false → (∀ i, D.FI i r = 0) ∧ (∀ i, D.FJ i r = 0) ∧ (∀ i, D.AI r i = 0) ∧ ∀ i, D.AJ r i = 0)
section BR9
variable {b nw : Nat → Bool} {F R : Nat → Nat → Option Nat} {X : Nat → Bool} {A A' : Nat → Nat} {S S' : Hp} {D : Dt}
theorem pre_grow (h : Pre b F R X A S D) (hn : ∀ r, nw r = true → b r = false) (he : ∀ r, b r = true → A' r = A r) (hi : ∀ r r', nw r = true → nw r' = true → A' r = A' r' → r = r') (hf : ∀ r, nw r = true → A' r ∉ S.L)
    (hk : ∀ r, nw r = true → isA S' (A' r) (kdr r) ∧ S'.N (A' r) = ndr r ∧ (∀ i, S'.FI i (A' r) = 0) ∧ (∀ i, S'.FJ i (A' r) = 0) ∧ (∀ i, S'.AI (A' r) i = 0) ∧ ∀ i, S'.AJ (A' r) i = 0)
    (ho : ∀ q, q ∈ S.L → q ∈ S'.L ∧ S'.K q = S.K q ∧ S'.N q = S.N q ∧ (∀ i, S'.FI i q = S.FI i q) ∧ (∀ i, S'.FJ i q = S.FJ i q) ∧ (∀ i, S'.FR i q = S.FR i q) ∧ S'.AI q = S.AI q ∧ S'.AJ q = S.AJ q ∧ S'.AR q = S.AR q) (hT : S'.T = S.T) : Pre (fun r => nw r || b r) F R X A' S' D := by
  obtain ⟨h1, h2, h3, h4, h5, h6, h7⟩ := h
  have cs : ∀ r, (nw r || b r) = true → (nw r = true) ∨ (b r = true ∧ nw r = false) := fun r hr => by
    cases e : nw r with
    | true => exact Or.inl rfl
    | false =>
      rw [e] at hr
      exact Or.inr ⟨hr, rfl⟩
  have up : ∀ r, b r = true → (nw r || b r) = true := fun r hr => by rw [hr, Bool.or_true]
  have inL : ∀ r, b r = true → A r ∈ S.L := fun r hr => (h2 r hr).1.1
  refine ⟨fun r r' hr hr' e => ?_, fun r hr => ?_, fun i r r' hF => ?_, fun r i r' hR => ?_, fun r hX => ?_, fun r hr => ?_, fun r hr => ?_⟩
  · rcases cs r hr with c | ⟨c, -⟩ <;> rcases cs r' hr' with c' | ⟨c', -⟩
    · exact hi r r' c c' e
    · rw [he r' c'] at e
      exact absurd (by rw [e]; exact inL r' c') (hf r c)
    · rw [he r c] at e
      exact absurd (by rw [← e]; exact inL r c) (hf r' c')
    · rw [he r c, he r' c'] at e
      exact h1 r r' c c' e
  · rcases cs r hr with c | ⟨c, -⟩
    · obtain ⟨k1, k2, k3, -⟩ := hk r c
      exact ⟨k1, k2, k3 578⟩
    · rw [he r c]
      obtain ⟨o1, o2, o3, o4, -⟩ := ho _ (inL r c)
      exact ⟨⟨o1, o2.trans (h2 r c).1.2⟩, o3.trans (h2 r c).2.1, (o4 578).trans (h2 r c).2.2⟩
  · obtain ⟨b1, b2, b3, b4⟩ := h3 i r r' hF
    rw [he r b1, he r' b2]
    obtain ⟨o1, o2, o3, o4, o5, o6, -⟩ := ho _ (inL r b1)
    exact ⟨up r b1, up r' b2, b3, (o6 i).trans b4⟩
  · obtain ⟨b1, b2, b4⟩ := h4 r i r' hR
    rw [he r b1, he r' b2]
    obtain ⟨o1, o2, o3, o4, o5, o6, o7, o8, o9⟩ := ho _ (inL r b1)
    exact ⟨up r b1, up r' b2, by rw [o9]; exact b4⟩
  · obtain ⟨b1, b2⟩ := h5 r hX
    rw [he r b1, hT]
    obtain ⟨o1, o2, o3, o4, o5, o6, -⟩ := ho _ (inL r b1)
    exact ⟨up r b1, (o6 577).trans b2⟩
  · rcases cs r hr with c | ⟨c, -⟩
    · obtain ⟨k1, k2, k3, k4, k5, k6⟩ := hk r c
      obtain ⟨z1, z2, z3, z4⟩ := h7 r (hn r c)
      exact ⟨fun i _ => (k3 i).trans (z1 i).symm, fun i => (k4 i).trans (z2 i).symm, fun i => (k5 i).trans (z3 i).symm, fun i => (k6 i).trans (z4 i).symm⟩
    · rw [he r c]
      obtain ⟨o1, o2, o3, o4, o5, o6, o7, o8, o9⟩ := ho _ (inL r c)
      obtain ⟨z1, z2, z3, z4⟩ := h6 r c
      exact ⟨fun i hi => (o4 i).trans (z1 i hi), fun i => (o5 i).trans (z2 i), fun i => by rw [o7]; exact z3 i, fun i => by rw [o8]; exact z4 i⟩
  · refine h7 r ?_
    cases e : b r with
    | false => rfl
    | true =>
      have hr2 : (nw r || b r) = false := hr
      rw [e, Bool.or_true] at hr2
      exact absurd hr2 (by decide)
theorem pre_cg {b' : Nat → Bool} (h : Pre b F R X A S D) (e : ∀ r, b' r = b r) : Pre b' F R X A S D := by
  rw [show b' = b from funext e]
  exact h
theorem pre_new {r0 a k n : Nat} (h : Pre b F R X A S D) (ha : a ∉ S.L) (hb : b r0 = false) (hk : kdr r0 = k) (hn : ndr r0 = n) : Pre (bu b r0) F R X (au A r0 a) (S.new a k n) D := by
  have hr0 : ∀ r, b r = true → r ≠ r0 := fun r hr e => by
    rw [e, hb] at hr
    exact absurd hr (by decide)
  have es : au A r0 a r0 = a := if_pos rfl
  refine pre_cg (pre_grow (nw := fun r => decide (r = r0)) (A' := au A r0 a) (S' := S.new a k n) h (fun r hr => ?_) (fun r hr => if_neg (hr0 r hr)) (fun r r' hr hr' _ => (of_decide_eq_true hr).trans (of_decide_eq_true hr').symm) (fun r hr => ?_) (fun r hr => ?_) (fun q hq => ?_) rfl) (fun r => ?_)
  · rw [of_decide_eq_true hr]
    exact hb
  · rw [of_decide_eq_true hr, es]
    exact ha
  · rw [of_decide_eq_true hr, es, hk, hn]
    exact ⟨new_isA, va_up_self _ _ _, fun i => if_pos rfl, fun i => if_pos rfl, fun i => by show va_up S.AI a (fun _ => 0) a i = 0; rw [va_up_self], fun i => by show va_up S.AJ a (fun _ => 0) a i = 0; rw [va_up_self]⟩
  · have hne : q ≠ a := fun e => ha (e ▸ hq)
    exact ⟨List.mem_append_left _ hq, va_up_ne _ _ hne, va_up_ne _ _ hne, fun i => if_neg hne, fun i => if_neg hne, fun i => if_neg hne, va_up_ne _ _ hne, va_up_ne _ _ hne, va_up_ne _ _ hne⟩
  · unfold bu
    by_cases c : r = r0
    · rw [if_pos c, decide_eq_true c]
      rfl
    · rw [if_neg c, decide_eq_false c]
      rfl
theorem pre_FR {i r r' q v : Nat} (h : Pre b F R X A S D) (hr : b r = true) (hr' : b r' = true) (hi : i ≠ 577) (e : A r = q) (e' : A r' = v) : Pre b (fu F i r r') R X A (S.setFR i q (some v)) D := by
  obtain ⟨h1, h2, h3, h4, h5, h6, h7⟩ := h
  refine ⟨h1, h2, fun j s s' hF => ?_, h4, fun s hX => ?_, h6, h7⟩
  · unfold fu at hF
    by_cases c : j = i ∧ s = r
    · rw [if_pos c] at hF
      obtain rfl := Option.some.inj hF
      obtain ⟨rfl, rfl⟩ := c
      refine ⟨hr, hr', hi, ?_⟩
      show up2 S.FR j q (some v) j (A s) = _
      rw [e, e', up2_s]
    · rw [if_neg c] at hF
      obtain ⟨b1, b2, b3, b4⟩ := h3 j s s' hF
      refine ⟨b1, b2, b3, ?_⟩
      show up2 S.FR i q (some v) j (A s) = _
      rw [up2_n (fun w => c ⟨w.1, h1 s r b1 hr (w.2.trans e.symm)⟩)]
      exact b4
  · obtain ⟨b1, b2⟩ := h5 s hX
    refine ⟨b1, ?_⟩
    show up2 S.FR i q (some v) 577 (A s) = _
    rw [up2_n (fun w => hi w.1.symm)]
    exact b2
theorem pre_X {r q : Nat} (h : Pre b F R X A S D) (hr : b r = true) (e : A r = q) : Pre b F R (bu X r) A (S.setFR 577 q (some (S.T 0))) D := by
  obtain ⟨h1, h2, h3, h4, h5, h6, h7⟩ := h
  refine ⟨h1, h2, fun j s s' hF => ?_, h4, fun s hX => ?_, h6, h7⟩
  · obtain ⟨b1, b2, b3, b4⟩ := h3 j s s' hF
    refine ⟨b1, b2, b3, ?_⟩
    show up2 S.FR 577 q _ j (A s) = _
    rw [up2_n (fun w => b3 w.1)]
    exact b4
  · unfold bu at hX
    by_cases c : s = r
    · rw [c]
      refine ⟨hr, ?_⟩
      show up2 S.FR 577 q (some (S.T 0)) 577 (A r) = some (S.T 0)
      rw [e, up2_s]
    · rw [if_neg c] at hX
      obtain ⟨b1, b2⟩ := h5 s hX
      refine ⟨b1, ?_⟩
      show up2 S.FR 577 q (some (S.T 0)) 577 (A s) = some (S.T 0)
      by_cases c2 : A s = q
      · rw [c2, up2_s]
      · rw [up2_n (fun w => c2 w.2)]
        exact b2
theorem pre_FI {i r q : Nat} {v : Int32} (h : Pre b F R X A S D) (hr : b r = true) (hi : i < 576) (e : A r = q) : Pre b F R X A (S.setFI i q v) (D.setFI i r v) := by
  obtain ⟨h1, h2, h3, h4, h5, h6, h7⟩ := h
  refine ⟨h1, fun s hs => ⟨(h2 s hs).1, (h2 s hs).2.1, ?_⟩, h3, h4, h5, fun s hs => ?_, fun s hs => ?_⟩
  · show up2 S.FI i q v 578 (A s) = 0
    rw [up2_n (fun w => by omega)]
    exact (h2 s hs).2.2
  · obtain ⟨z1, z2, z3, z4⟩ := h6 s hs
    refine ⟨fun j hj => ?_, z2, z3, z4⟩
    show up2 S.FI i q v j (A s) = up2 D.FI i r v j s
    by_cases c : j = i ∧ s = r
    · obtain ⟨rfl, rfl⟩ := c
      rw [e, up2_s, up2_s]
    · rw [up2_n c, up2_n (fun w => c ⟨w.1, h1 s r hs hr (w.2.trans e.symm)⟩)]
      exact z1 j hj
  · obtain ⟨z1, z2, z3, z4⟩ := h7 s hs
    refine ⟨fun j => ?_, z2, z3, z4⟩
    show up2 D.FI i r v j s = 0
    rw [up2_n (fun w => by rw [w.2, hr] at hs; exact absurd hs (by decide))]
    exact z1 j
theorem pre_FIx {i q : Nat} {v : Int32} (h : Pre b F R X A S D) (hi : 576 ≤ i) (hi2 : i ≠ 578) : Pre b F R X A (S.setFI i q v) D := by
  obtain ⟨h1, h2, h3, h4, h5, h6, h7⟩ := h
  refine ⟨h1, fun s hs => ⟨(h2 s hs).1, (h2 s hs).2.1, ?_⟩, h3, h4, h5, fun s hs => ?_, h7⟩
  · show up2 S.FI i q v 578 (A s) = 0
    rw [up2_n (fun w => hi2 w.1.symm)]
    exact (h2 s hs).2.2
  · obtain ⟨z1, z2, z3, z4⟩ := h6 s hs
    refine ⟨fun j hj => ?_, z2, z3, z4⟩
    show up2 S.FI i q v j (A s) = D.FI j s
    rw [up2_n (fun w => by omega)]
    exact z1 j hj
theorem pre_AI {i r q : Nat} {v : Int32} (h : Pre b F R X A S D) (hr : b r = true) (e : A r = q) : Pre b F R X A (S.setAI q i v) (D.setAI r i v) := by
  obtain ⟨h1, h2, h3, h4, h5, h6, h7⟩ := h
  refine ⟨h1, h2, h3, h4, h5, fun s hs => ?_, fun s hs => ?_⟩
  · obtain ⟨z1, z2, z3, z4⟩ := h6 s hs
    refine ⟨z1, z2, fun j => ?_, z4⟩
    show up2 S.AI q i v (A s) j = up2 D.AI r i v s j
    by_cases c : s = r ∧ j = i
    · obtain ⟨rfl, rfl⟩ := c
      rw [e, up2_s, up2_s]
    · rw [up2_n c, up2_n (fun w => c ⟨h1 s r hs hr (w.1.trans e.symm), w.2⟩)]
      exact z3 j
  · obtain ⟨z1, z2, z3, z4⟩ := h7 s hs
    refine ⟨z1, z2, fun j => ?_, z4⟩
    show up2 D.AI r i v s j = 0
    rw [up2_n (fun w => by rw [w.1, hr] at hs; exact absurd hs (by decide))]
    exact z3 j
theorem pre_AJ {i r q : Nat} {v : Int64} (h : Pre b F R X A S D) (hr : b r = true) (e : A r = q) : Pre b F R X A (S.setAJ q i v) (D.setAJ r i v) := by
  obtain ⟨h1, h2, h3, h4, h5, h6, h7⟩ := h
  refine ⟨h1, h2, h3, h4, h5, fun s hs => ?_, fun s hs => ?_⟩
  · obtain ⟨z1, z2, z3, z4⟩ := h6 s hs
    refine ⟨z1, z2, z3, fun j => ?_⟩
    show up2 S.AJ q i v (A s) j = up2 D.AJ r i v s j
    by_cases c : s = r ∧ j = i
    · obtain ⟨rfl, rfl⟩ := c
      rw [e, up2_s, up2_s]
    · rw [up2_n c, up2_n (fun w => c ⟨h1 s r hs hr (w.1.trans e.symm), w.2⟩)]
      exact z4 j
  · obtain ⟨z1, z2, z3, z4⟩ := h7 s hs
    refine ⟨z1, z2, z3, fun j => ?_⟩
    show up2 D.AJ r i v s j = 0
    rw [up2_n (fun w => by rw [w.1, hr] at hs; exact absurd hs (by decide))]
    exact z4 j
theorem fillJ_s {D : Dt} {r j : Nat} {v : Int64} : (D.fillJ r j v).setAJ r j v = D.fillJ r (j + 1) v := by
  unfold Dt.fillJ Dt.setAJ
  show Dt.mk D.FI D.FJ D.AI _ = Dt.mk D.FI D.FJ D.AI _
  congr 1
  funext x i
  show up2 (fun x i => if x = r ∧ i < j then v else D.AJ x i) r j v x i = _
  unfold up2
  dsimp only
  by_cases c1 : x = r
  · by_cases c2 : i = j
    · rw [if_pos ⟨c1, c2⟩, if_pos ⟨c1, by omega⟩]
    · rw [if_neg (fun q => c2 q.2)]
      by_cases c3 : i < j
      · rw [if_pos ⟨c1, c3⟩, if_pos ⟨c1, by omega⟩]
      · rw [if_neg (fun q => c3 q.2), if_neg (fun q => by omega)]
  · rw [if_neg (fun q => c1 q.1), if_neg (fun q => c1 q.1), if_neg (fun q => c1 q.1)]
theorem fillJ_0 {D : Dt} {r : Nat} {v : Int64} : D.fillJ r 0 v = D := by
  unfold Dt.fillJ
  have e2 : (fun x i => if x = r ∧ i < 0 then v else D.AJ x i) = D.AJ := by
    funext x i
    exact if_neg (fun q => by omega)
  rw [e2]
  rfl
theorem fillI_s {D : Dt} {r j : Nat} {v : Int32} : (D.fillI r j v).setAI r j v = D.fillI r (j + 1) v := by
  unfold Dt.fillI Dt.setAI
  show Dt.mk D.FI D.FJ _ D.AJ = Dt.mk D.FI D.FJ _ D.AJ
  congr 1
  funext x i
  show up2 (fun x i => if x = r ∧ i < j then v else D.AI x i) r j v x i = _
  unfold up2
  dsimp only
  by_cases c1 : x = r
  · by_cases c2 : i = j
    · rw [if_pos ⟨c1, c2⟩, if_pos ⟨c1, by omega⟩]
    · rw [if_neg (fun q => c2 q.2)]
      by_cases c3 : i < j
      · rw [if_pos ⟨c1, c3⟩, if_pos ⟨c1, by omega⟩]
      · rw [if_neg (fun q => c3 q.2), if_neg (fun q => by omega)]
  · rw [if_neg (fun q => c1 q.1), if_neg (fun q => c1 q.1), if_neg (fun q => c1 q.1)]
theorem fillI_0 {D : Dt} {r : Nat} {v : Int32} : D.fillI r 0 v = D := by
  unfold Dt.fillI
  have e2 : (fun x i => if x = r ∧ i < 0 then v else D.AI x i) = D.AI := by
    funext x i
    exact if_neg (fun q => by omega)
  rw [e2]
  rfl
theorem pre_is (h : Pre b F R X A S D) {r k q : Nat} (hr : b r = true) (hk : kdr r = k) (e : A r = q) : isA S q k := by
  rw [← hk, ← e]
  exact (h.2.1 r hr).1
theorem pre_N (h : Pre b F R X A S D) {r n q : Nat} (hr : b r = true) (hn : ndr r = n) (e : A r = q) : S.N q = n := by
  rw [← hn, ← e]
  exact (h.2.1 r hr).2.1
theorem q_fillJ {Φ : Hp → Prop} {r n q : Nat} {v : Int64} (h : Pre b F R X A S D) (hr : b r = true) (hk : kdr r = 22) (hn : ndr r = n) (hn30 : n ≤ 30) (e : A r = q) (k : ∀ S', Pre b F R X A S' (D.fillJ r n v) → Φ S') : wJ7_fill_d0a16 S q v Φ := by
  unfold wJ7_fill_d0a16 wJ7_fill_d0a16_b0
  refine ⟨pre_is h hr hk e, ?_⟩
  rw [pre_N h hr hn e]
  refine it3_ex (fun j S1 c1 c2 => Pre b F R X A S1 (D.fillJ r j v) ∧ c1 = nI j ∧ c2 = nI n) n ?_ ?_ ⟨by rw [fillJ_0]; exact h, rfl, rfl⟩
  · rintro j hj S1 _ _ k1 ⟨h1, rfl, rfl⟩ hk1
    unfold wJ7_fill_d0a16_b6
    refine if_n (nI_ge hj (by omega)) ⟨pre_is h1 hr hk e, ?_, fun S4 e4 => ?_⟩
    · rw [pre_N h1 hr hn e]
      exact in_nI hj hn30
    · rw [e4, cl_nI (by omega), ← nI_succ]
      exact hk1 _ _ _ ⟨by rw [← fillJ_s]; exact pre_AJ h1 hr e, rfl, rfl⟩
  · rintro S1 _ _ k1 ⟨h1, rfl, rfl⟩
    unfold wJ7_fill_d0a16_b6
    exact if_p (nI_le (Nat.le_refl _) (by omega)) (k _ h1)
theorem q_fillI {Φ : Hp → Prop} {r n q : Nat} {v : Int32} (h : Pre b F R X A S D) (hr : b r = true) (hk : kdr r = 21) (hn : ndr r = n) (hn30 : n ≤ 30) (e : A r = q) (k : ∀ S', Pre b F R X A S' (D.fillI r n v) → Φ S') : wJ7_fill_53178 S q v Φ := by
  unfold wJ7_fill_53178 wJ7_fill_53178_b0
  refine ⟨pre_is h hr hk e, ?_⟩
  rw [pre_N h hr hn e]
  refine it3_ex (fun j S1 c1 c2 => Pre b F R X A S1 (D.fillI r j v) ∧ c1 = nI j ∧ c2 = nI n) n ?_ ?_ ⟨by rw [fillI_0]; exact h, rfl, rfl⟩
  · rintro j hj S1 _ _ k1 ⟨h1, rfl, rfl⟩ hk1
    unfold wJ7_fill_53178_b5
    refine if_n (nI_ge hj (by omega)) ⟨pre_is h1 hr hk e, ?_, fun S4 e4 => ?_⟩
    · rw [pre_N h1 hr hn e]
      exact in_nI hj hn30
    · rw [e4, cl_nI (by omega), ← nI_succ]
      exact hk1 _ _ _ ⟨by rw [← fillI_s]; exact pre_AI h1 hr e, rfl, rfl⟩
  · rintro S1 _ _ k1 ⟨h1, rfl, rfl⟩
    unfold wJ7_fill_53178_b5
    exact if_p (nI_le (Nat.le_refl _) (by omega)) (k _ h1)
/-- a new list -/
theorem q_list {Φ : Hp → Prop} {r q : Nat} (h : Pre b F R X A S D) (hr : b r = true) (hk : kdr r = 9) (e : A r = q) (k : ∀ S', Pre b F R (bu X r) A S' D → Φ S') : wJx4a65c_init_da8c8 S q Φ := by
  have hi := pre_is h hr hk e
  unfold wJx4a65c_init_da8c8 wJx4a65c_init_da8c8_b0 wJxc12de_init_da8c8 wJxc12de_init_da8c8_b0 wJxa1e45_init_da8c8 wJxa1e45_init_da8c8_b0
  refine ⟨hi, fun S3 e3 => ?_⟩
  have h3 : Pre b F R X A S3 D := by
    rw [e3]
    exact pre_FIx h (by decide) (by decide)
  refine ⟨pre_is h3 hr hk e, fun S4 e4 => k S4 ?_⟩
  rw [e4]
  exact pre_X h3 hr e
/-- a new row -/
theorem q_row {Φ : Hp → Prop} {r u v n q : Nat} {x : Int32} (h : Pre b F R X A S D) (hr : b r = true) (hk : kdr r = 4) (e : A r = q) (hu : b u = false) (hv : bu b u v = false) (ku : kdr u = 22) (kv : kdr v = 22) (nu : ndr u = n) (nv : ndr v = n) (hx : x = nI n) (hn : n ≤ 24)
    (k : ∀ S' q1 q2, Pre (bu (bu b u) v) (fu (fu F 256 r u) 257 r v) R X (au (au A u q1) v q2) S' (D.fillJ v n 1) → Φ S') : wX4_init S q x Φ := by
  have hru : r ≠ u := fun w => by
    rw [w, hu] at hr
    exact absurd hr (by decide)
  have huv : u ≠ v := fun w => by
    have : bu b u v = true := if_pos w.symm
    rw [this] at hv
    exact absurd hv (by decide)
  have hrv : r ≠ v := fun w => by
    have : bu b u v = true := by
      rw [← w]
      exact (if_neg hru).trans hr
    rw [this] at hv
    exact absurd hv (by decide)
  have c : x.toNatClampNeg = n := by
    rw [hx]
    exact cl_nI (by omega)
  have hx0 : ¬ x < 0 := by
    rw [hx]
    exact nI_nlt (a := n) (b := 0) (by omega) (by omega)
  unfold wX4_init wX4_init_b0
  rw [c]
  refine ⟨hx0, hn, fun q1 S3 f1 e3 => ?_⟩
  have h3 : Pre (bu b u) F R X (au A u q1) S3 D := by
    rw [e3]
    exact pre_new h f1 hu ku nu
  have r3 : bu b u r = true := (if_neg hru).trans hr
  have e3' : au A u q1 r = q := (if_neg hru).trans e
  refine ⟨pre_is h3 r3 hk e3', fun S5 e5 => ⟨hx0, hn, fun q2 S8 f2 e8 S9 e9 => ?_⟩⟩
  have h5 : Pre (bu b u) (fu F 256 r u) R X (au A u q1) S5 D := by
    rw [e5]
    exact pre_FR h3 r3 (if_pos rfl) (by decide) e3' (if_pos rfl)
  have h8 : Pre (bu (bu b u) v) (fu F 256 r u) R X (au (au A u q1) v q2) S8 D := by
    rw [e8]
    exact pre_new h5 f2 hv kv nv
  have r8 : bu (bu b u) v r = true := (if_neg hrv).trans r3
  have e8' : au (au A u q1) v q2 r = q := (if_neg hrv).trans e3'
  have h9 : Pre (bu (bu b u) v) (fu (fu F 256 r u) 257 r v) R X (au (au A u q1) v q2) S9 D := by
    rw [e9]
    exact pre_FR h8 r8 (if_pos rfl) (by decide) e8' (if_pos rfl)
  refine ⟨q2, ?_, q_fillJ h9 (r := v) (if_pos rfl) kv nv (by omega) (if_pos rfl) (fun S' h' => k S' q1 q2 h')⟩
  rw [e9]
  exact up2_s
end BR9
