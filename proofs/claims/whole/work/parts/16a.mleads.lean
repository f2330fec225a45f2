/-! THE REFERENCE: ways from shaft to shaft -/
theorem t_isKind {S : Hp} {Φ : Hp → Int32 → Prop} {x a b : Int32} (k1 : mnP x a b → Φ S 1) (k0 : ¬ mnP x a b → Φ S 0) : wX8_isKind S x a b Φ := by
  have isI : ∀ {lo hi z : Int32} {Φ' : Hp → Int32 → Prop}, ((lo.toInt ≤ z.toInt ∧ z.toInt ≤ hi.toInt) → Φ' S 1) → (¬ (lo.toInt ≤ z.toInt ∧ z.toInt ≤ hi.toInt) → Φ' S 0) → wX8_isIn S z lo hi Φ' := fun {lo hi z Φ'} q1 q0 => by
    refine t_isIn ?_
    by_cases c : lo.toInt ≤ z.toInt ∧ z.toInt ≤ hi.toInt
    · rw [decide_eq_true c]
      exact q1 c
    · rw [decide_eq_false c]
      exact q0 c
  have gi : x = 103 ∨ x = 105 → wX8_isIn S a 6 30 (fun S2 r3 => ((r3 = 0 → Φ S2 0) ∧ (¬ (r3 = 0) → wX8_isIn S2 b 6 30 (fun S5 r6 => ((r6 = 0 → Φ S5 0) ∧ (¬ (r6 = 0) → Φ S5 1)))))) := fun hx => by
    have only : mnP x a b → (6 ≤ a.toInt ∧ a.toInt ≤ 30) ∧ 6 ≤ b.toInt ∧ b.toInt ≤ 30 := fun h => by
      rcases h with h | h | h | h
      · exact h.2
      · exact absurd h.1 (by rcases hx with e | e <;> rw [e] <;> decide)
      · exact absurd h.1 (by rcases hx with e | e <;> rw [e] <;> decide)
      · exact absurd h.1 (by rcases hx with e | e <;> rw [e] <;> decide)
    exact isI (fun ha => if_n (by decide) (isI (fun hb => if_n (by decide) (k1 (Or.inl ⟨hx, ha, hb⟩))) (fun hb => if_p rfl (k0 (fun q => hb (only q).2))))) (fun ha => if_p rfl (k0 (fun q => ha (only q).1)))
  unfold wX8_isKind wX8_isKind_b0
  by_cases c1 : x = 103
  · exact if_p c1 (gi (Or.inl c1))
  refine if_n c1 ?_
  by_cases c2 : x = 105
  · exact if_p c2 (gi (Or.inr c2))
  refine if_n c2 ?_
  by_cases c4 : x = 114
  · refine if_p c4 (isI (fun ha => if_n (by decide) ?_) (fun ha => if_p rfl (k0 (fun q => ?_))))
    · by_cases cb : b = 0
      · exact fi_p cb (k1 (Or.inr (Or.inr (Or.inl ⟨c4, ha, cb⟩))))
      · refine fi_n cb (k0 (fun q => ?_))
        rcases q with q | q | q | q
        · exact q.1.elim c1 c2
        · exact cb q.2.2
        · exact cb q.2.2
        · exact cb q.2.2
    · rcases q with q | q | q | q
      · exact q.1.elim c1 c2
      · exact absurd q.1 (by rw [c4]; decide)
      · exact ha q.2.1
      · exact absurd q.1 (by rw [c4]; decide)
  refine if_n c4 ?_
  by_cases c3 : x = 118
  · refine if_p c3 (isI (fun ha => if_n (by decide) ?_) (fun ha => if_p rfl (k0 (fun q => ?_))))
    · by_cases cb : b = 0
      · exact fi_p cb (k1 (Or.inr (Or.inl ⟨c3, ha, cb⟩)))
      · refine fi_n cb (k0 (fun q => ?_))
        rcases q with q | q | q | q
        · exact q.1.elim c1 c2
        · exact cb q.2.2
        · exact cb q.2.2
        · exact cb q.2.2
    · rcases q with q | q | q | q
      · exact q.1.elim c1 c2
      · exact ha q.2.1
      · exact absurd q.1 (by rw [c3]; decide)
      · exact absurd q.1 (by rw [c3]; decide)
  refine if_n c3 ?_
  by_cases c5 : x = 107
  · refine fi_p c5 ?_
    by_cases ca : a = 0
    · refine fi_p ca ?_
      by_cases cb : b = 0
      · exact fi_p cb (k1 (Or.inr (Or.inr (Or.inr ⟨c5, ca, cb⟩))))
      · refine fi_n cb (k0 (fun q => ?_))
        rcases q with q | q | q | q
        · exact q.1.elim c1 c2
        · exact cb q.2.2
        · exact cb q.2.2
        · exact cb q.2.2
    · refine fi_n ca (k0 (fun q => ?_))
      rcases q with q | q | q | q
      · exact q.1.elim c1 c2
      · exact c3 q.1
      · exact c4 q.1
      · exact ca q.2.1
  · refine fi_n c5 (k0 (fun q => ?_))
    rcases q with q | q | q | q
    · exact q.1.elim c1 c2
    · exact c3 q.1
    · exact c4 q.1
    · exact c5 q.1
def srb (G : Nat → Nat → Nat) (k x : Nat) : Bool := decide (x = G k 1) || (decide (G k 0 = 112) && decide (x = G k 2))
theorem srb_t {G : Nat → Nat → Nat} {k x : Nat} : srb G k x = true ↔ src G k x := by
  unfold srb src
  simp only [Bool.or_eq_true, Bool.and_eq_true, decide_eq_true_eq]
def lds (G : Nat → Nat → Nat) (nl x y : Nat) : Nat → Bool
  | 0 => false
  | i + 1 => lds G nl x y i || (srb G i x && bh G nl (G i 3) y)
theorem lds_t {G : Nat → Nat → Nat} {nl x y : Nat} : ∀ i, lds G nl x y i = true ↔ ∃ k, k < i ∧ src G k x ∧ bh G nl (G k 3) y = true
  | 0 => ⟨fun q => absurd (show false = true from q) (by decide), fun ⟨k, hk, _⟩ => absurd hk (Nat.not_lt_zero k)⟩
  | i + 1 => by
    show (lds G nl x y i || (srb G i x && bh G nl (G i 3) y)) = true ↔ _
    rw [Bool.or_eq_true, Bool.and_eq_true, lds_t i, srb_t]
    constructor
    · rintro (⟨k, a, b⟩ | ⟨a, b⟩)
      · exact ⟨k, by omega, b⟩
      · exact ⟨i, by omega, a, b⟩
    · rintro ⟨k, a, b, c⟩
      by_cases e : k = i
      · subst e
        exact Or.inr ⟨b, c⟩
      · exact Or.inl ⟨k, by omega, b, c⟩
section ML9
variable {A E : Nat → Nat} {ls : Nat → List Nat} {nl nc nd : Nat} {S : Hp} {D : Dt} {G : Nat → Nat → Nat}
theorem leads_body {ns x y nlr : Nat} {rec9 : Hp → Nat → Int32 → Int32 → (Hp → Int32 → Prop) → Prop} {Φ : Hp → Int32 → Prop} {lv : Nat → Nat} (hG : GrOK ns nl G) (hL : Lev nl G lv) (hM : LkM G nl D) (hnl : D.FI 544 70 = nI nl) (hy : y < ns) (h : Rep A E ls nlr nc nd S D) (hx : x < ns)
    (hr : ∀ k Φ', k < nl → src G k x → Φ' S (bI (bh G nl (G k 3) y)) → rec9 S (A 70) (nI (G k 3)) (nI y) Φ') (kk : Φ S (bI (bh G nl x y))) : wX8_leads_b0 rec9 (A 70) (nI x) (nI y) Φ S := by
  have h14 := hG.1
  have hnl14 := hG.2.1
  unfold wX8_leads_b0
  by_cases c : x = y
  · have e : bh G nl x y = true := by rw [c]; exact bh_self
    rw [e] at kk
    exact fi_p (by rw [c]) kk
  refine fi_n (fun q => c ((nI_iff (by omega) (by omega)).mp q)) ?_
  have eb : bh G nl x y = lds G nl x y nl := by
    have h1 := lead_iff hG hL x (lv y) y (Nat.le_refl _)
    have h2 := lds_t (G := G) (nl := nl) (x := x) (y := y) nl
    cases e1 : bh G nl x y
    · cases e2 : lds G nl x y nl
      · rfl
      · have := h1.mpr (Or.inr (h2.mp e2))
        rw [e1] at this
        exact this
    · rcases h1.mp e1 with q | q
      · exact absurd q c
      · exact (h2.mpr q).symm
  rw [eb] at kk
  have vnl : S.FI 544 (A 70) = nI nl := by
    rw [rep_FI h 544 (by decide) m_al]
    exact hnl
  -- the first link that leads there, or the end
  have stop : ∃ m, m ≤ nl ∧ (∀ j, j < m → lds G nl x y j = false) ∧ lds G nl x y m = lds G nl x y nl ∧ (m < nl → lds G nl x y m = true) := by
    have gen : ∀ d m, m + d = nl → (∀ j, j < m → lds G nl x y j = false) → ∃ m, m ≤ nl ∧ (∀ j, j < m → lds G nl x y j = false) ∧ lds G nl x y m = lds G nl x y nl ∧ (m < nl → lds G nl x y m = true) := by
      intro d
      induction d with
      | zero =>
        intro m hm hf
        have e : m = nl := by omega
        rw [e] at hf
        exact ⟨nl, Nat.le_refl _, hf, rfl, fun q => absurd q (Nat.lt_irrefl _)⟩
      | succ d ih =>
        intro m hm hf
        cases e : lds G nl x y m
        · refine ih (m + 1) (by omega) (fun j hj => ?_)
          by_cases cj : j = m
          · rw [cj]
            exact e
          · exact hf j (by omega)
        · refine ⟨m, by omega, hf, ?_, fun _ => e⟩
          rw [e]
          obtain ⟨k, a, b⟩ := (lds_t m).mp e
          exact ((lds_t nl).mpr ⟨k, by omega, b⟩).symm
    exact gen nl 0 (by omega) (fun j hj => absurd hj (Nat.not_lt_zero j))
  obtain ⟨m, m1, m2, m3, m4⟩ := stop
  refine it3_ex (fun j S1 v a => S1 = S ∧ v = bI (lds G nl x y j) ∧ a = nI j) m ?_ ?_ ⟨rfl, rfl, rfl⟩
  · rintro j hj S1 _ _ k9 ⟨rfl, rfl, rfl⟩ hk9
    have hjn : j < nl := by omega
    have hf := m2 j hj
    obtain ⟨g1, g2, g3, g4, g5, g6⟩ := hM j hjn
    obtain ⟨hkk, hf1, hs1, ht1⟩ := hG.2.2.1 j hjn
    have k16 : ∀ n, n = 16 → vp_in (nI j) n := fun n e => by
      rw [e]
      exact in_nI (by omega) (by decide)
    have a82 := m_arr h 522 82 21 16
    have a83 := m_arr h 523 83 21 16
    have a84 := m_arr h 524 84 21 16
    have v82 : S1.AI (A 82) (nI j).toNatClampNeg = nI (G j 1) := rd_I h (al_s (by decide)) (by omega) g2
    have v83 : S1.AI (A 83) (nI j).toNatClampNeg = sec G j := rd_I h (al_s (by decide)) (by omega) g3
    have v84 : S1.AI (A 84) (nI j).toNatClampNeg = nI (G j 3) := rd_I h (al_s (by decide)) (by omega) g4
    have nxt : ∀ b : Bool, b = (srb G j x && bh G nl (G j 3) y) → wX8_leads_b67 rec9 (A 70) (nI x) (nI y) Φ k9 S1 (nI j) (bI b) := fun b hb => by
      unfold wX8_leads_b67
      rw [← nI_succ]
      refine hk9 _ _ _ ⟨rfl, ?_, rfl⟩
      show bI b = bI (lds G nl x y j || (srb G j x && bh G nl (G j 3) y))
      rw [hf, Bool.false_or, hb]
    have yes : src G j x → wX8_leads_b47 rec9 (A 70) (nI x) (nI y) Φ k9 S1 (nI j) := fun hs => by
      unfold wX8_leads_b47
      refine ⟨m_is h, A 84, a84.1, a84.2.1, k16 _ a84.2.2, ?_⟩
      rw [v84]
      refine hr j _ hjn hs ?_
      have es := srb_t.mpr hs
      cases eq : bh G nl (G j 3) y
      · refine if_p rfl ?_
        unfold wX8_leads_b66
        exact nxt false (by rw [eq, Bool.and_false])
      · exact if_n (by decide) (nxt true (by rw [eq, es]; rfl))
    unfold wX8_leads_b12
    rw [vnl, hf]
    refine ⟨m_is h, if_n (nI_ge hjn (by omega)) (fi_p rfl ⟨A 82, a82.1, a82.2.1, k16 _ a82.2.2, ?_⟩)⟩
    rw [v82]
    by_cases c1 : G j 1 = x
    · exact if_p (by rw [c1]) (yes (Or.inl c1.symm))
    refine if_n (fun q => c1 ((nI_iff (by omega) (by omega)).mp q)) ⟨A 83, a83.1, a83.2.1, k16 _ a83.2.2, ?_⟩
    rw [v83]
    by_cases c2 : G j 0 = 112 ∧ G j 2 = x
    · refine fi_p ?_ (yes (Or.inr ⟨c2.1, c2.2.symm⟩))
      unfold sec
      rw [if_pos c2.1, c2.2]
    · refine fi_n (fun q => ?_) ?_
      · unfold sec at q
        by_cases c3 : G j 0 = 112
        · rw [if_pos c3] at q
          have := hs1 c3
          exact c2 ⟨c3, (nI_iff (by omega) (by omega)).mp q⟩
        · rw [if_neg c3] at q
          exact nI_nm (by omega) q.symm
      · unfold wX8_leads_b66
        refine nxt false ?_
        have : srb G j x = false := by
          cases e : srb G j x
          · rfl
          · rcases srb_t.mp e with q | ⟨q1, q2⟩
            · exact absurd q.symm c1
            · exact absurd ⟨q1, q2.symm⟩ c2
        rw [this, Bool.false_and]
  · rintro S1 _ _ k9 ⟨rfl, rfl, rfl⟩
    unfold wX8_leads_b12
    rw [vnl, m3]
    refine ⟨m_is h, ?_⟩
    by_cases c1 : m < nl
    · refine if_n (nI_ge c1 (by omega)) ?_
      have e := m4 c1
      rw [m3] at e
      rw [e] at kk ⊢
      exact fi_n (by decide) ⟨narrow_bI true, kk⟩
    · exact if_p (nI_le (by omega) (by omega)) ⟨narrow_bI _, kk⟩
theorem p_leads {ns y nlr : Nat} {lv : Nat → Nat} (hG : GrOK ns nl G) (hL : Lev nl G lv) (hM : LkM G nl D) (hnl : D.FI 544 70 = nI nl) (hy : y < ns) (h : Rep A E ls nlr nc nd S D) : ∀ (n x : Nat) (Φ : Hp → Int32 → Prop), x < ns → 3 ≤ n + lv x → Φ S (bI (bh G nl x y)) → wX8_leads (n + 1) S (A 70) (nI x) (nI y) Φ := by
  intro n
  induction n with
  | zero =>
    intro x Φ hx hl kk
    show wX8_leads_b0 _ _ _ _ _ _
    refine leads_body hG hL hM hnl hy h hx (fun k Φ' hk hs _ => ?_) kk
    have := hL.1 k x hk hs
    have := hL.2 (G k 3)
    omega
  | succ n ih =>
    intro x Φ hx hl kk
    show wX8_leads_b0 _ _ _ _ _ _
    refine leads_body hG hL hM hnl hy h hx (fun k Φ' hk hs k2 => ?_) kk
    have := hL.1 k x hk hs
    exact ih (G k 3) Φ' (hG.2.2.1 k hk).2.2.2 (by omega) k2
end ML9
