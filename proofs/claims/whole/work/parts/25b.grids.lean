/-! THE CONSTRUCTORS: grids -/
set_option maxRecDepth 100000
section GR9
variable {b : Nat → Bool} {F R : Nat → Nat → Option Nat} {X : Nat → Bool} {A : Nat → Nat} {S : Hp} {D : Dt}
def bus (b : Nat → Bool) (lo m : Nat) : Nat → Bool := fun r => (decide (lo ≤ r) && decide (r < lo + m)) || b r
def aus (A : Nat → Nat) (lo m : Nat) (f : Nat → Nat) : Nat → Nat := fun r => if lo ≤ r ∧ r < lo + m then f (r - lo) else A r
def ru (R : Nat → Nat → Option Nat) (r lo m : Nat) : Nat → Nat → Option Nat := fun x => if x = r then (fun i => if i < m then some (lo + i) else none) else R x
theorem aus_in {lo m i : Nat} {f : Nat → Nat} (h : i < m) : aus A lo m f (lo + i) = f i := by
  unfold aus
  rw [if_pos ⟨by omega, by omega⟩, show lo + i - lo = i by omega]
theorem bus_in {lo m i : Nat} (h : i < m) : bus b lo m (lo + i) = true := by
  unfold bus
  rw [decide_eq_true (show lo ≤ lo + i by omega), decide_eq_true (show lo + i < lo + m by omega)]
  rfl
theorem pre_ru {r q lo m : Nat} {f : Nat → Option Nat} (h : Pre b F R X A S D) (hr : b r = true) (e : A r = q) (hg : ∀ i, i < m → b (lo + i) = true ∧ f i = some (A (lo + i))) : Pre b F (ru R r lo m) X A (S.putAR q f) D := by
  refine pre_AR h hr e (fun i s hs => ?_)
  by_cases c : i < m
  · rw [if_pos c] at hs
    obtain rfl := Option.some.inj hs
    exact hg i c
  · rw [if_neg c] at hs
    exact absurd hs (fun q => by cases q)
theorem q_mk2 {lo r0 q ko ke n k : Nat} {f : Nat → Nat} (h : Pre b F R X A S D) (hf : fr2 S q f n) (hb : ∀ i, i < n → b (lo + i) = false ∧ kdr (lo + i) = ke ∧ ndr (lo + i) = k) (h0 : bus b lo n r0 = false) (k0 : kdr r0 = ko) (n0 : ndr r0 = n) : Pre (bu (bus b lo n) r0) F (ru R r0 lo n) X (au (aus A lo n f) r0 q) (mk2 S q f ko ke n k) D := by
  have h1 : Pre (bus b lo n) F R X (aus A lo n f) (S.news (rowsL f n) ke k) D := pre_news h (fun y => mem_rowsL) (fun i hi => (hf.2.1 i hi).1) hf.2.2 hb
  have hq : q ∉ (S.news (rowsL f n) ke k).L := fun w => by
    rcases List.mem_append.mp w with w | w
    · exact hf.1 w
    · obtain ⟨i, hi, e⟩ := mem_rowsL.mp w
      exact (hf.2.1 i hi).2 e
  have h2 := pre_new h1 hq h0 k0 n0
  have hne : ∀ i, i < n → lo + i ≠ r0 := fun i hi e => by
    have := bus_in (b := b) (lo := lo) hi
    rw [e, h0] at this
    exact absurd this (by decide)
  refine pre_ru h2 (if_pos rfl) (if_pos rfl) (fun i hi => ⟨(if_neg (hne i hi)).trans (bus_in hi), ?_⟩)
  show rowsR f n i = some (au (aus A lo n f) r0 q (lo + i))
  unfold rowsR
  rw [if_pos hi, show au (aus A lo n f) r0 q (lo + i) = aus A lo n f (lo + i) from if_neg (hne i hi), aus_in hi]
theorem q_mk3 {q : Nat} {q2 : Nat → Nat} {f : Nat → Nat → Nat} (h : Pre b F R X A S D) (hf : fr3 S q q2 f 4 24) (hb1 : ∀ i, i < 96 → b (300 + i) = false) (hb2 : ∀ i, i < 4 → b (250 + i) = false) (hb3 : b 101 = false) :
    Pre (bu (bus (bus b 300 96) 250 4) 101) F (ru (ru (ru (ru (ru R 250 300 24) 251 324 24) 252 348 24) 253 372 24) 101 250 4) X (au (aus (aus A 300 96 (fun t => f (t / 24) (t % 24))) 250 4 q2) 101 q) (mk3 S q q2 f 4 24 8) D := by
  obtain ⟨f1, f2, f3, f4, f5⟩ := hf
  have hk1 : ∀ i, i < 96 → kdr (300 + i) = 23 ∧ ndr (300 + i) = 8 := by decide +kernel
  have hk2 : ∀ i, i < 4 → kdr (250 + i) = 28 ∧ ndr (250 + i) = 24 := by decide +kernel
  have dm : ∀ i, i < 96 → i / 24 < 4 ∧ i % 24 < 24 := fun i hi => ⟨by omega, by omega⟩
  have h1 : Pre (bus b 300 96) F R X (aus A 300 96 (fun t => f (t / 24) (t % 24))) (S.news (rows2L f 4 24) 23 8) D := by
    refine pre_news (lo := 300) (k := 23) (n := 8) (m := 96) (f := fun t => f (t / 24) (t % 24)) (l := rows2L f 4 24) h (fun y => mem_rows2L.trans ⟨?_, ?_⟩) (fun i hi => (f4 _ _ (dm i hi).1 (dm i hi).2).1) (fun i j hi hj e => ?_) (fun i hi => ⟨hb1 i hi, hk1 i hi⟩)
    · rintro ⟨i, j, hi, hj, e⟩
      refine ⟨24 * i + j, by omega, ?_⟩
      rw [show (24 * i + j) / 24 = i by omega, show (24 * i + j) % 24 = j by omega]
      exact e
    · rintro ⟨t, ht, e⟩
      exact ⟨_, _, (dm t ht).1, (dm t ht).2, e⟩
    · have := f5 _ _ _ _ (dm i hi).1 (dm i hi).2 (dm j hj).1 (dm j hj).2 e
      omega
  have h2 : Pre (bus (bus b 300 96) 250 4) F R X (aus (aus A 300 96 (fun t => f (t / 24) (t % 24))) 250 4 q2) ((S.news (rows2L f 4 24) 23 8).news (rowsL q2 4) 28 24) D := by
    refine pre_news (lo := 250) (k := 28) (n := 24) (m := 4) (f := q2) (l := rowsL q2 4) h1 (fun y => mem_rowsL) (fun i hi w => ?_) f3 (fun i hi => ⟨?_, hk2 i hi⟩)
    · rcases List.mem_append.mp w with w | w
      · exact (f2 i hi).1 w
      · obtain ⟨i2, j2, hi2, hj2, e⟩ := mem_rows2L.mp w
        exact (f4 i2 j2 hi2 hj2).2.2 i hi e
    · unfold bus
      rw [decide_eq_false (show ¬ 300 ≤ 250 + i by omega)]
      exact hb2 i hi
  have lf : ∀ d i, d < 4 → i < 24 → bus (bus b 300 96) 250 4 (300 + 24 * d + i) = true ∧ aus (aus A 300 96 (fun t => f (t / 24) (t % 24))) 250 4 q2 (300 + 24 * d + i) = f d i := fun d i hd hi => by
    constructor
    · have := bus_in (b := b) (lo := 300) (m := 96) (i := 24 * d + i) (by omega)
      rw [show 300 + (24 * d + i) = 300 + 24 * d + i by omega] at this
      unfold bus at this ⊢
      rw [this, Bool.or_true]
    · have := aus_in (A := A) (lo := 300) (m := 96) (i := 24 * d + i) (f := fun t => f (t / 24) (t % 24)) (by omega)
      rw [show 300 + (24 * d + i) = 300 + 24 * d + i by omega] at this
      have e : aus (aus A 300 96 (fun t => f (t / 24) (t % 24))) 250 4 q2 (300 + 24 * d + i) = aus A 300 96 (fun t => f (t / 24) (t % 24)) (300 + 24 * d + i) := if_neg (by omega)
      rw [e, this]
      show f ((24 * d + i) / 24) ((24 * d + i) % 24) = f d i
      rw [show (24 * d + i) / 24 = d by omega, show (24 * d + i) % 24 = i by omega]
  have rw1 : ∀ d, d < 4 → bus (bus b 300 96) 250 4 (250 + d) = true ∧ aus (aus A 300 96 (fun t => f (t / 24) (t % 24))) 250 4 q2 (250 + d) = q2 d := fun d hd => ⟨bus_in hd, aus_in hd⟩
  have st : ∀ d i, i < 24 → rowsR (f d) 24 i = some (f d i) := fun d i hi => if_pos hi
  have h3 := pre_ru (f := rowsR (f 0) 24) (lo := 300) (m := 24) h2 (rw1 0 (by decide)).1 (rw1 0 (by decide)).2 (fun i hi => ⟨(lf 0 i (by decide) hi).1, by rw [(lf 0 i (by decide) hi).2]; exact st 0 i hi⟩)
  have h4 := pre_ru (f := rowsR (f 1) 24) (lo := 324) (m := 24) h3 (rw1 1 (by decide)).1 (rw1 1 (by decide)).2 (fun i hi => ⟨(lf 1 i (by decide) hi).1, by rw [show 324 + i = 300 + 24 * 1 + i from rfl, (lf 1 i (by decide) hi).2]; exact st 1 i hi⟩)
  have h5 := pre_ru (f := rowsR (f 2) 24) (lo := 348) (m := 24) h4 (rw1 2 (by decide)).1 (rw1 2 (by decide)).2 (fun i hi => ⟨(lf 2 i (by decide) hi).1, by rw [show 348 + i = 300 + 24 * 2 + i from rfl, (lf 2 i (by decide) hi).2]; exact st 2 i hi⟩)
  have h6 := pre_ru (f := rowsR (f 3) 24) (lo := 372) (m := 24) h5 (rw1 3 (by decide)).1 (rw1 3 (by decide)).2 (fun i hi => ⟨(lf 3 i (by decide) hi).1, by rw [show 372 + i = 300 + 24 * 3 + i from rfl, (lf 3 i (by decide) hi).2]; exact st 3 i hi⟩)
  have hq : q ∉ (((S.news (rows2L f 4 24) 23 8).news (rowsL q2 4) 28 24).putARs q2 (fun i => rowsR (f i) 24) 4).L := fun w => by
    rcases List.mem_append.mp w with w | w
    · rcases List.mem_append.mp w with w | w
      · exact f1 w
      · obtain ⟨i2, j2, hi2, hj2, e⟩ := mem_rows2L.mp w
        exact (f4 i2 j2 hi2 hj2).2.1 e
    · obtain ⟨i2, hi2, e⟩ := mem_rowsL.mp w
      exact (f2 i2 hi2).2 e
  have hb4 : bus (bus b 300 96) 250 4 101 = false := by
    unfold bus
    rw [hb3]
    rfl
  have h7 := pre_new (r0 := 101) (k := 29) (n := 4) h6 hq hb4 rfl rfl
  refine pre_ru h7 (if_pos rfl) (if_pos rfl) (fun i hi => ⟨(if_neg (by omega)).trans (rw1 i hi).1, ?_⟩)
  show rowsR q2 4 i = some (au (aus (aus A 300 96 (fun t => f (t / 24) (t % 24))) 250 4 q2) 101 q (250 + i))
  unfold rowsR
  rw [if_pos hi, show au (aus (aus A 300 96 (fun t => f (t / 24) (t % 24))) 250 4 q2) 101 q (250 + i) = aus (aus A 300 96 (fun t => f (t / 24) (t % 24))) 250 4 q2 (250 + i) from if_neg (by omega), (rw1 i hi).2]
end GR9
