/-! LOOPS WHOSE OTHER ARGUMENTS STAY: the state and the last ones change -/
theorem it4_c {T0 T1 T2 T3 : Type} {F9 : (T0 → T1 → T2 → T3 → Prop) → T0 → T1 → T2 → T3 → Prop} {x1 : T1} {x2 : T2} (I : Nat → T0 → T3 → Prop) (m : Nat)
    (hs : ∀ j, j < m → ∀ s v0 (k : T0 → T1 → T2 → T3 → Prop), I j s v0 → (∀ s' v0', I (j + 1) s' v0' → k s' x1 x2 v0') → F9 k s x1 x2 v0)
    (he : ∀ s v0 k, I m s v0 → F9 k s x1 x2 v0) : ∀ d j, j + d = m → ∀ n, d < n → ∀ s v0, I j s v0 → it4 F9 n s x1 x2 v0 := by
  intro d
  induction d with
  | zero =>
    intro j hj n hn s v0 h
    obtain ⟨n, rfl⟩ : ∃ n', n = n' + 1 := ⟨n - 1, by omega⟩
    have : j = m := by omega
    subst this
    exact he s v0 _ h
  | succ d ih =>
    intro j hj n hn s v0 h
    obtain ⟨n, rfl⟩ : ∃ n', n = n' + 1 := ⟨n - 1, by omega⟩
    exact hs j (by omega) s v0 _ h (fun s' v0' h' => ih (j + 1) (by omega) n (by omega) s' v0' h')
theorem it9_c {T0 T1 T2 T3 T4 T5 T6 T7 T8 : Type} {F9 : (T0 → T1 → T2 → T3 → T4 → T5 → T6 → T7 → T8 → Prop) → T0 → T1 → T2 → T3 → T4 → T5 → T6 → T7 → T8 → Prop} {x1 : T1} {x2 : T2} {x3 : T3} {x4 : T4} {x5 : T5} {x6 : T6} {x7 : T7} (I : Nat → T0 → T8 → Prop) (m : Nat)
    (hs : ∀ j, j < m → ∀ s v0 (k : T0 → T1 → T2 → T3 → T4 → T5 → T6 → T7 → T8 → Prop), I j s v0 → (∀ s' v0', I (j + 1) s' v0' → k s' x1 x2 x3 x4 x5 x6 x7 v0') → F9 k s x1 x2 x3 x4 x5 x6 x7 v0)
    (he : ∀ s v0 k, I m s v0 → F9 k s x1 x2 x3 x4 x5 x6 x7 v0) : ∀ d j, j + d = m → ∀ n, d < n → ∀ s v0, I j s v0 → it9 F9 n s x1 x2 x3 x4 x5 x6 x7 v0 := by
  intro d
  induction d with
  | zero =>
    intro j hj n hn s v0 h
    obtain ⟨n, rfl⟩ : ∃ n', n = n' + 1 := ⟨n - 1, by omega⟩
    have : j = m := by omega
    subst this
    exact he s v0 _ h
  | succ d ih =>
    intro j hj n hn s v0 h
    obtain ⟨n, rfl⟩ : ∃ n', n = n' + 1 := ⟨n - 1, by omega⟩
    exact hs j (by omega) s v0 _ h (fun s' v0' h' => ih (j + 1) (by omega) n (by omega) s' v0' h')
theorem it14_c {T0 T1 T2 T3 T4 T5 T6 T7 T8 T9 T10 T11 T12 T13 : Type} {F9 : (T0 → T1 → T2 → T3 → T4 → T5 → T6 → T7 → T8 → T9 → T10 → T11 → T12 → T13 → Prop) → T0 → T1 → T2 → T3 → T4 → T5 → T6 → T7 → T8 → T9 → T10 → T11 → T12 → T13 → Prop} {x1 : T1} {x2 : T2} {x3 : T3} {x4 : T4} {x5 : T5} {x6 : T6} {x7 : T7} {x8 : T8} {x9 : T9} {x10 : T10} {x11 : T11} {x12 : T12} (I : Nat → T0 → T13 → Prop) (m : Nat)
    (hs : ∀ j, j < m → ∀ s v0 (k : T0 → T1 → T2 → T3 → T4 → T5 → T6 → T7 → T8 → T9 → T10 → T11 → T12 → T13 → Prop), I j s v0 → (∀ s' v0', I (j + 1) s' v0' → k s' x1 x2 x3 x4 x5 x6 x7 x8 x9 x10 x11 x12 v0') → F9 k s x1 x2 x3 x4 x5 x6 x7 x8 x9 x10 x11 x12 v0)
    (he : ∀ s v0 k, I m s v0 → F9 k s x1 x2 x3 x4 x5 x6 x7 x8 x9 x10 x11 x12 v0) : ∀ d j, j + d = m → ∀ n, d < n → ∀ s v0, I j s v0 → it14 F9 n s x1 x2 x3 x4 x5 x6 x7 x8 x9 x10 x11 x12 v0 := by
  intro d
  induction d with
  | zero =>
    intro j hj n hn s v0 h
    obtain ⟨n, rfl⟩ : ∃ n', n = n' + 1 := ⟨n - 1, by omega⟩
    have : j = m := by omega
    subst this
    exact he s v0 _ h
  | succ d ih =>
    intro j hj n hn s v0 h
    obtain ⟨n, rfl⟩ : ∃ n', n = n' + 1 := ⟨n - 1, by omega⟩
    exact hs j (by omega) s v0 _ h (fun s' v0' h' => ih (j + 1) (by omega) n (by omega) s' v0' h')
theorem it15_c {T0 T1 T2 T3 T4 T5 T6 T7 T8 T9 T10 T11 T12 T13 T14 : Type} {F9 : (T0 → T1 → T2 → T3 → T4 → T5 → T6 → T7 → T8 → T9 → T10 → T11 → T12 → T13 → T14 → Prop) → T0 → T1 → T2 → T3 → T4 → T5 → T6 → T7 → T8 → T9 → T10 → T11 → T12 → T13 → T14 → Prop} {x1 : T1} {x2 : T2} {x3 : T3} {x4 : T4} {x5 : T5} {x6 : T6} {x7 : T7} {x8 : T8} {x9 : T9} {x10 : T10} {x11 : T11} {x12 : T12} {x13 : T13} (I : Nat → T0 → T14 → Prop) (m : Nat)
    (hs : ∀ j, j < m → ∀ s v0 (k : T0 → T1 → T2 → T3 → T4 → T5 → T6 → T7 → T8 → T9 → T10 → T11 → T12 → T13 → T14 → Prop), I j s v0 → (∀ s' v0', I (j + 1) s' v0' → k s' x1 x2 x3 x4 x5 x6 x7 x8 x9 x10 x11 x12 x13 v0') → F9 k s x1 x2 x3 x4 x5 x6 x7 x8 x9 x10 x11 x12 x13 v0)
    (he : ∀ s v0 k, I m s v0 → F9 k s x1 x2 x3 x4 x5 x6 x7 x8 x9 x10 x11 x12 x13 v0) : ∀ d j, j + d = m → ∀ n, d < n → ∀ s v0, I j s v0 → it15 F9 n s x1 x2 x3 x4 x5 x6 x7 x8 x9 x10 x11 x12 x13 v0 := by
  intro d
  induction d with
  | zero =>
    intro j hj n hn s v0 h
    obtain ⟨n, rfl⟩ : ∃ n', n = n' + 1 := ⟨n - 1, by omega⟩
    have : j = m := by omega
    subst this
    exact he s v0 _ h
  | succ d ih =>
    intro j hj n hn s v0 h
    obtain ⟨n, rfl⟩ : ∃ n', n = n' + 1 := ⟨n - 1, by omega⟩
    exact hs j (by omega) s v0 _ h (fun s' v0' h' => ih (j + 1) (by omega) n (by omega) s' v0' h')
theorem it20_c {T0 T1 T2 T3 T4 T5 T6 T7 T8 T9 T10 T11 T12 T13 T14 T15 T16 T17 T18 T19 : Type} {F9 : (T0 → T1 → T2 → T3 → T4 → T5 → T6 → T7 → T8 → T9 → T10 → T11 → T12 → T13 → T14 → T15 → T16 → T17 → T18 → T19 → Prop) → T0 → T1 → T2 → T3 → T4 → T5 → T6 → T7 → T8 → T9 → T10 → T11 → T12 → T13 → T14 → T15 → T16 → T17 → T18 → T19 → Prop} {x1 : T1} {x2 : T2} {x3 : T3} {x4 : T4} {x5 : T5} {x6 : T6} {x7 : T7} {x8 : T8} {x9 : T9} {x10 : T10} {x11 : T11} {x12 : T12} {x13 : T13} {x14 : T14} {x15 : T15} {x16 : T16} {x17 : T17} {x18 : T18} (I : Nat → T0 → T19 → Prop) (m : Nat)
    (hs : ∀ j, j < m → ∀ s v0 (k : T0 → T1 → T2 → T3 → T4 → T5 → T6 → T7 → T8 → T9 → T10 → T11 → T12 → T13 → T14 → T15 → T16 → T17 → T18 → T19 → Prop), I j s v0 → (∀ s' v0', I (j + 1) s' v0' → k s' x1 x2 x3 x4 x5 x6 x7 x8 x9 x10 x11 x12 x13 x14 x15 x16 x17 x18 v0') → F9 k s x1 x2 x3 x4 x5 x6 x7 x8 x9 x10 x11 x12 x13 x14 x15 x16 x17 x18 v0)
    (he : ∀ s v0 k, I m s v0 → F9 k s x1 x2 x3 x4 x5 x6 x7 x8 x9 x10 x11 x12 x13 x14 x15 x16 x17 x18 v0) : ∀ d j, j + d = m → ∀ n, d < n → ∀ s v0, I j s v0 → it20 F9 n s x1 x2 x3 x4 x5 x6 x7 x8 x9 x10 x11 x12 x13 x14 x15 x16 x17 x18 v0 := by
  intro d
  induction d with
  | zero =>
    intro j hj n hn s v0 h
    obtain ⟨n, rfl⟩ : ∃ n', n = n' + 1 := ⟨n - 1, by omega⟩
    have : j = m := by omega
    subst this
    exact he s v0 _ h
  | succ d ih =>
    intro j hj n hn s v0 h
    obtain ⟨n, rfl⟩ : ∃ n', n = n' + 1 := ⟨n - 1, by omega⟩
    exact hs j (by omega) s v0 _ h (fun s' v0' h' => ih (j + 1) (by omega) n (by omega) s' v0' h')
theorem it20_c2 {T0 T1 T2 T3 T4 T5 T6 T7 T8 T9 T10 T11 T12 T13 T14 T15 T16 T17 T18 T19 : Type} {F9 : (T0 → T1 → T2 → T3 → T4 → T5 → T6 → T7 → T8 → T9 → T10 → T11 → T12 → T13 → T14 → T15 → T16 → T17 → T18 → T19 → Prop) → T0 → T1 → T2 → T3 → T4 → T5 → T6 → T7 → T8 → T9 → T10 → T11 → T12 → T13 → T14 → T15 → T16 → T17 → T18 → T19 → Prop} {x1 : T1} {x2 : T2} {x3 : T3} {x4 : T4} {x5 : T5} {x6 : T6} {x7 : T7} {x8 : T8} {x9 : T9} {x10 : T10} {x11 : T11} {x12 : T12} {x13 : T13} {x14 : T14} {x15 : T15} {x16 : T16} {x17 : T17} (I : Nat → T0 → T18 → T19 → Prop) (m : Nat)
    (hs : ∀ j, j < m → ∀ s v0 v1 (k : T0 → T1 → T2 → T3 → T4 → T5 → T6 → T7 → T8 → T9 → T10 → T11 → T12 → T13 → T14 → T15 → T16 → T17 → T18 → T19 → Prop), I j s v0 v1 → (∀ s' v0' v1', I (j + 1) s' v0' v1' → k s' x1 x2 x3 x4 x5 x6 x7 x8 x9 x10 x11 x12 x13 x14 x15 x16 x17 v0' v1') → F9 k s x1 x2 x3 x4 x5 x6 x7 x8 x9 x10 x11 x12 x13 x14 x15 x16 x17 v0 v1)
    (he : ∀ s v0 v1 k, I m s v0 v1 → F9 k s x1 x2 x3 x4 x5 x6 x7 x8 x9 x10 x11 x12 x13 x14 x15 x16 x17 v0 v1) : ∀ d j, j + d = m → ∀ n, d < n → ∀ s v0 v1, I j s v0 v1 → it20 F9 n s x1 x2 x3 x4 x5 x6 x7 x8 x9 x10 x11 x12 x13 x14 x15 x16 x17 v0 v1 := by
  intro d
  induction d with
  | zero =>
    intro j hj n hn s v0 v1 h
    obtain ⟨n, rfl⟩ : ∃ n', n = n' + 1 := ⟨n - 1, by omega⟩
    have : j = m := by omega
    subst this
    exact he s v0 v1 _ h
  | succ d ih =>
    intro j hj n hn s v0 v1 h
    obtain ⟨n, rfl⟩ : ∃ n', n = n' + 1 := ⟨n - 1, by omega⟩
    exact hs j (by omega) s v0 v1 _ h (fun s' v0' v1' h' => ih (j + 1) (by omega) n (by omega) s' v0' v1' h')
theorem it23_c {T0 T1 T2 T3 T4 T5 T6 T7 T8 T9 T10 T11 T12 T13 T14 T15 T16 T17 T18 T19 T20 T21 T22 : Type} {F9 : (T0 → T1 → T2 → T3 → T4 → T5 → T6 → T7 → T8 → T9 → T10 → T11 → T12 → T13 → T14 → T15 → T16 → T17 → T18 → T19 → T20 → T21 → T22 → Prop) → T0 → T1 → T2 → T3 → T4 → T5 → T6 → T7 → T8 → T9 → T10 → T11 → T12 → T13 → T14 → T15 → T16 → T17 → T18 → T19 → T20 → T21 → T22 → Prop} {x1 : T1} {x2 : T2} {x3 : T3} {x4 : T4} {x5 : T5} {x6 : T6} {x7 : T7} {x8 : T8} {x9 : T9} {x10 : T10} {x11 : T11} {x12 : T12} {x13 : T13} {x14 : T14} {x15 : T15} {x16 : T16} {x17 : T17} {x18 : T18} {x19 : T19} {x20 : T20} {x21 : T21} (I : Nat → T0 → T22 → Prop) (m : Nat)
    (hs : ∀ j, j < m → ∀ s v0 (k : T0 → T1 → T2 → T3 → T4 → T5 → T6 → T7 → T8 → T9 → T10 → T11 → T12 → T13 → T14 → T15 → T16 → T17 → T18 → T19 → T20 → T21 → T22 → Prop), I j s v0 → (∀ s' v0', I (j + 1) s' v0' → k s' x1 x2 x3 x4 x5 x6 x7 x8 x9 x10 x11 x12 x13 x14 x15 x16 x17 x18 x19 x20 x21 v0') → F9 k s x1 x2 x3 x4 x5 x6 x7 x8 x9 x10 x11 x12 x13 x14 x15 x16 x17 x18 x19 x20 x21 v0)
    (he : ∀ s v0 k, I m s v0 → F9 k s x1 x2 x3 x4 x5 x6 x7 x8 x9 x10 x11 x12 x13 x14 x15 x16 x17 x18 x19 x20 x21 v0) : ∀ d j, j + d = m → ∀ n, d < n → ∀ s v0, I j s v0 → it23 F9 n s x1 x2 x3 x4 x5 x6 x7 x8 x9 x10 x11 x12 x13 x14 x15 x16 x17 x18 x19 x20 x21 v0 := by
  intro d
  induction d with
  | zero =>
    intro j hj n hn s v0 h
    obtain ⟨n, rfl⟩ : ∃ n', n = n' + 1 := ⟨n - 1, by omega⟩
    have : j = m := by omega
    subst this
    exact he s v0 _ h
  | succ d ih =>
    intro j hj n hn s v0 h
    obtain ⟨n, rfl⟩ : ∃ n', n = n' + 1 := ⟨n - 1, by omega⟩
    exact hs j (by omega) s v0 _ h (fun s' v0' h' => ih (j + 1) (by omega) n (by omega) s' v0' h')
