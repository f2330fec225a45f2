/-! THE START: nothing is made, and all is as the invariant asks -/
set_option maxRecDepth 100000
def Dz : Dt := Dt.mk (fun _ _ => 0) (fun _ _ => 0) (fun _ _ => 0) (fun _ _ => 0)
theorem pre_nil (S : Hp) : Pre (fun _ => false) (fun _ _ => none) (fun _ _ => none) (fun _ => false) (fun r => r) S Dz := ⟨fun _ _ h => Bool.noConfusion h, fun _ h => Bool.noConfusion h, fun _ _ _ h => absurd h (fun q => by cases q), fun _ _ _ h => absurd h (fun q => by cases q), fun _ h => Bool.noConfusion h, fun _ h => Bool.noConfusion h, fun _ _ => ⟨fun _ => rfl, fun _ => rfl, fun _ => rfl, fun _ => rfl⟩⟩
theorem al_0 {r : Nat} (h : al 0 0 0 r) : sdr r = true := by
  rcases h with h | h | h | h
  · exact h
  · omega
  · omega
  · omega
theorem sdr_lt {r : Nat} (h : sdr r = true) : r < 400 := by
  by_cases c : r < 400
  · exact c
  · rw [sdr_400 (by omega)] at h
    exact absurd h (by decide)
section ST9
variable {b : Nat → Bool} {F R : Nat → Nat → Option Nat} {X : Nat → Bool} {A : Nat → Nat} {S : Hp} {D : Dt}
theorem pre_rep (h : Pre b F R X A S D) (hb : ∀ r, sdr r = true → b r = true) (hF : ∀ x, x ∈ rfT → sdr x.2.1 = true ∧ sdr x.2.2 = true ∧ F x.1 x.2.1 = some x.2.2)
    (hc : ∀ c, c < 8 → R 96 c = some (200 + c) ∧ R 97 c = some (210 + c) ∧ R 98 c = some (220 + c) ∧ R 99 c = some (230 + c)) (hd : ∀ d, d < 4 → R 102 d = some (240 + d) ∧ R 101 d = some (250 + d)) (hp : ∀ d, d < 4 → ∀ p, p < 24 → R (250 + d) p = some (300 + 24 * d + p)) (hX : ∀ j, j < 4 → X (1 + j) = true)
    (h2 : ∀ i, i < 40 → sdr (96 + i) = (decide (i < 7) || decide (i = 14) || decide (i = 15))) (h3 : ∀ i, i < 8 → sdr (200 + i) = true ∧ sdr (210 + i) = true ∧ sdr (220 + i) = true ∧ sdr (230 + i) = true) (h4 : ∀ i, i < 4 → sdr (240 + i) = true ∧ sdr (250 + i) = true) (h5 : ∀ i, i < 96 → sdr (300 + i) = true) (h6 : ∀ i, i < 5 → sdr i = true) :
    ∃ A', (∀ r, sdr r = true → A' r = A r) ∧ Rep A' (fun _ => S.T 0) (fun _ => []) 0 0 0 S D := by
  obtain ⟨g1, g2, g3, g4, g5, g6, g7⟩ := h
  have hmem : ∀ x, x ∈ ((List.range 400).filter sdr).map (fun r => (r, A r)) ↔ sdr x.1 = true ∧ x.2 = A x.1 := fun x => by
    rw [List.mem_map]
    constructor
    · rintro ⟨r, hr, rfl⟩
      exact ⟨(List.mem_filter.mp hr).2, rfl⟩
    · rintro ⟨h1, h2⟩
      exact ⟨x.1, List.mem_filter.mpr ⟨List.mem_range.mpr (sdr_lt h1), h1⟩, by rw [← h2]⟩
  obtain ⟨A', i1, i2, -⟩ := swap_L (A := fun r => r) (fun r r' e => e) (((List.range 400).filter sdr).map (fun r => (r, A r))) (fun x hx y hy => by
    obtain ⟨x1, x2⟩ := (hmem x).mp hx
    obtain ⟨y1, y2⟩ := (hmem y).mp hy
    rw [x2, y2]
    exact ⟨fun e => by rw [e], fun e => g1 _ _ (hb _ x1) (hb _ y1) e⟩)
  have hA : ∀ r, sdr r = true → A' r = A r := fun r hr => i2 (r, A r) ((hmem _).mpr ⟨hr, rfl⟩)
  have gR : ∀ r i r', R r i = some r' → sdr r = true → sdr r' = true → S.AR (A' r) i = some (A' r') := fun r i r' e1 e2 e3 => by
    rw [hA r e2, hA r' e3]
    exact (g4 r i r' e1).2.2
  have s9 : ∀ i, i < 7 → sdr (96 + i) = true := fun i hi => by
    rw [h2 i (by omega), decide_eq_true hi]
    rfl
  refine ⟨A', hA, ⟨i1, fun r hr => ?_, fun x hx => ?_, fun c hc' => ?_, fun d hd' => ⟨?_, ?_, fun p hp' => ?_⟩, fun c hc' => absurd hc' (Nat.not_lt_zero c), fun d hd' => absurd hd' (Nat.not_lt_zero d), fun j hj => ?_, fun _ _ _ _ _ _ => rfl⟩, fun r hr => ?_⟩
  · rw [hA r (al_0 hr)]
    exact ⟨(g2 r (hb r (al_0 hr))).1, (g2 r (hb r (al_0 hr))).2.1⟩
  · obtain ⟨x1, x2, x3⟩ := hF x hx
    rw [hA _ x1, hA _ x2]
    exact (g3 _ _ _ x3).2.2.2
  · obtain ⟨c1, c2, c3, c4⟩ := hc c hc'
    obtain ⟨k1, k2, k3, k4⟩ := h3 c hc'
    exact ⟨gR _ _ _ c1 (s9 0 (by decide)) k1, gR _ _ _ c2 (s9 1 (by decide)) k2, gR _ _ _ c3 (s9 2 (by decide)) k3, gR _ _ _ c4 (s9 3 (by decide)) k4⟩
  · exact gR _ _ _ (hd d hd').1 (s9 6 (by decide)) (h4 d hd').1
  · exact gR _ _ _ (hd d hd').2 (s9 5 (by decide)) (h4 d hd').2
  · refine gR _ _ _ (hp d hd' p hp') (h4 d hd').2 ?_
    have := h5 (24 * d + p) (by omega)
    rw [show 300 + (24 * d + p) = 300 + 24 * d + p by omega] at this
    exact this
  · rw [hA _ (h6 (1 + j) (by omega))]
    exact ⟨(g2 _ (hb _ (h6 (1 + j) (by omega)))).2.2, (g5 _ (hX j hj)).2, Or.inl ⟨rfl, rfl⟩⟩
  · rw [hA r (al_0 hr)]
    exact g6 r (hb r (al_0 hr))
end ST9
def D9 : Dt := (d7 Dz).setFJ 548 70 1
theorem d9_AI {r i : Nat} (h : r ≠ 5) : D9.AI r i = 0 := if_neg (fun q => h q.1)
theorem d9_5 : ∀ i, i < 14 → D9.AI 5 i = -1 := by decide +kernel
theorem d9_r : ∀ i, i < 16 → (D9.AJ 32 i = 0 ∧ D9.AJ 33 i = 1) ∧ (i < 14 → D9.AJ 34 i = 0 ∧ D9.AJ 35 i = 1) := by decide +kernel
theorem dp_0 {G : Nat → Nat → Nat} (s : Nat) : dp G 0 s = 0 := by
  unfold dp
  show dpF G 0 (19 + 1) s = 0
  unfold dpF
  rfl
theorem js_0 {S : Hp} {A : Nat → Nat} (h : Rep A (fun _ => S.T 0) (fun _ => []) 0 0 0 S D9) : JS 0 S (A 0) (A 70) (A 110) (A 111) := by
  refine ⟨A, _, _, 0, 0, 0, 0, fun _ _ => 0, fun _ => 0, fun _ => 0, fun _ => 0, fun _ => false, fun _ => false, fun _ => false, fun _ => 0, fun _ => 0, fun _ => cm0 0, fun _ _ _ => false, fun _ => 0, fun _ _ => 0, 0, [], D9, rfl, rfl, rfl, rfl, h, ⟨rfl, rfl, rfl, rfl, ?_⟩, ?_, ?_, ?_⟩
  · exact ⟨Nat.zero_le _, fun k hk => absurd hk (Nat.not_lt_zero k), fun j k e => by simp at e⟩
  · refine ⟨⟨⟨by decide, by decide, fun k hk => absurd hk (Nat.not_lt_zero k), fun k k' hk => absurd hk (Nat.not_lt_zero k)⟩, fun k s hk => absurd hk (Nat.not_lt_zero k), fun s => by rw [dp_0]; decide⟩, ⟨fun k hk => absurd hk (Nat.not_lt_zero k), fun s => ⟨0, by rw [Rat.zero_mul]; rfl, Nat.zero_le _⟩, fun k hk => absurd hk (Nat.not_lt_zero k), fun k hk => absurd hk (Nat.not_lt_zero k)⟩, ⟨fun k hk => absurd hk (Nat.not_lt_zero k), fun k hk => absurd hk (Nat.not_lt_zero k), fun k hk => absurd hk (Nat.not_lt_zero k), by decide, by decide⟩, ⟨fun k _ => ⟨rfl, rfl, rfl⟩, fun _ _ => rfl, fun _ => Rat.le_refl⟩, ⟨fun _ => rfl, fun q => absurd q (Nat.lt_irrefl 0), by decide⟩, fun d _ => ⟨fun _ _ => rfl, fun _ => rfl⟩⟩
  · refine ⟨⟨rfl, fun k hk => absurd hk (Nat.not_lt_zero k), fun s hs => d9_5 s hs⟩, fun k hk => absurd hk (Nat.not_lt_zero k), ⟨fun i hi => (d9_r i (by omega)).2 hi, fun i hi => (d9_r i hi).1, fun k hk => absurd hk (Nat.not_lt_zero k), fun k _ => d9_AI (by decide)⟩, fun k hk => absurd hk (Nat.not_lt_zero k), ⟨fun k hk => absurd hk (Nat.not_lt_zero k), fun k _ hk => absurd hk (Nat.not_lt_zero k), fun k _ _ hk => absurd hk (Nat.not_lt_zero k)⟩, fun k _ => d9_AI (by decide), Or.inl rfl⟩
  · exact ⟨⟨rfl, rfl, rfl, rfl⟩, ⟨fun k hk => absurd hk (Nat.not_lt_zero k), fun k hk => absurd hk (Nat.not_lt_zero k)⟩, fun k hk => absurd hk (Nat.not_lt_zero k), ⟨fun k hk => absurd hk (Nat.not_lt_zero k), fun k hk => absurd hk (Nat.not_lt_zero k)⟩, ⟨fun k hk => absurd hk (Nat.not_lt_zero k), fun c _ _ => d9_AI (by decide)⟩, fun k hk => absurd hk (Nat.not_lt_zero k), fun d p t _ _ _ => d9_AI (by omega), fun d t _ _ => d9_AI (by omega)⟩
theorem law_start {xs : Nat → Int32} {L : Nat} (hL : L ≤ 3072) (S : Hp) : wL_law S xs L := by
  unfold wL_law wL_law_b0
  intro a1 S2 f2 e2
  have h2 := pre_new (r0 := 0) (k := 7) (n := 0) (pre_nil S) f2 rfl rfl rfl
  rw [← e2] at h2
  refine q_init7 h2 rfl (fun S3 A3 h3 e3 => ?_)
  intro a4 S5 f5 e5
  have h5 := pre_new (r0 := 70) (k := 8) (n := 0) h3 f5 rfl rfl rfl
  rw [← e5] at h5
  refine q_init8 (z0 := a1) h5 rfl e3 (fun S6 A6 h6 e6 e7 => ?_)
  intro a7 S8 f8 s8
  have h8 := pre_new (r0 := 110) (k := 22) (n := 1) h6 f8 rfl rfl rfl
  rw [← s8] at h8
  intro a9 S10 f10 s10
  have h10 := pre_new (r0 := 111) (k := 24) (n := 1) h8 f10 rfl rfl rfl
  rw [← s10] at h10
  obtain ⟨A', hA, hr⟩ := pre_rep h10 (fun r hr => by
    have key : ∀ r, r < 400 → sdr r = true → bu (bu b8 110) 111 r = true := by decide +kernel
    exact key r (sdr_lt hr) hr) (by decide +kernel) (by decide +kernel) (by decide +kernel) (by decide +kernel) (by decide +kernel) (by decide +kernel) (by decide +kernel) (by decide +kernel) (by decide +kernel) (by decide +kernel)
  refine law_loop hL ?_
  have j := js_0 hr
  rw [hA 0 rfl, hA 70 rfl, hA 110 rfl, hA 111 rfl] at j
  have q0 : au (au A6 110 a7) 111 a9 0 = a1 := e7
  have q1 : au (au A6 110 a7) 111 a9 70 = a4 := e6
  have q2 : au (au A6 110 a7) 111 a9 110 = a7 := rfl
  have q3 : au (au A6 110 a7) 111 a9 111 = a9 := rfl
  rw [q0, q1, q2, q3] at j
  exact j
