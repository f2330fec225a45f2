/-! THE REFERENCE: how deep a shaft is, and what lies behind an input -/
def dpF (G : Nat → Nat → Nat) (nl : Nat) : Nat → Nat → Nat
  | 0, _ => 0
  | n + 1, s => match drv G nl s with
    | none => 0
    | some k => 1 + (if G k 0 = 112 then max (dpF G nl n (G k 1)) (dpF G nl n (G k 2)) else dpF G nl n (G k 1))
theorem dpF_succ (G : Nat → Nat → Nat) (nl n s : Nat) : dpF G nl (n + 1) s = (match drv G nl s with | none => 0 | some k => 1 + (if G k 0 = 112 then max (dpF G nl n (G k 1)) (dpF G nl n (G k 2)) else dpF G nl n (G k 1))) := rfl
theorem lev0 {G : Nat → Nat → Nat} {nl s : Nat} {lv : Nat → Nat} (hL : ∀ k s, k < nl → src G k s → lv s < lv (G k 3)) (hs : lv s = 0) : drv G nl s = none := by
  cases h : drv G nl s with
  | none => rfl
  | some k =>
    obtain ⟨hk, e⟩ := drv_some h
    have := hL k (G k 1) hk (Or.inl rfl)
    rw [e] at this
    omega
theorem dpF_step {G : Nat → Nat → Nat} {nl : Nat} {lv : Nat → Nat} (hL : ∀ k s, k < nl → src G k s → lv s < lv (G k 3)) : ∀ n m s, lv s ≤ n → n ≤ m → dpF G nl n s = dpF G nl m s := by
  intro n
  induction n with
  | zero =>
    intro m s hs hm
    cases m with
    | zero => rfl
    | succ m =>
      rw [dpF_succ, lev0 hL (by omega)]
      rfl
  | succ n ih =>
    intro m s hs hm
    obtain ⟨m, rfl⟩ : ∃ m', m = m' + 1 := ⟨m - 1, by omega⟩
    rw [dpF_succ, dpF_succ]
    cases h : drv G nl s with
    | none => rfl
    | some k =>
      obtain ⟨hk, e⟩ := drv_some h
      have h1 := hL k (G k 1) hk (Or.inl rfl)
      rw [e] at h1
      have e1 := ih m (G k 1) (by omega) (by omega)
      show 1 + (if G k 0 = 112 then max (dpF G nl n (G k 1)) (dpF G nl n (G k 2)) else dpF G nl n (G k 1)) = 1 + (if G k 0 = 112 then max (dpF G nl m (G k 1)) (dpF G nl m (G k 2)) else dpF G nl m (G k 1))
      rw [e1]
      by_cases hp : G k 0 = 112
      · have h2 := hL k (G k 2) hk (Or.inr ⟨hp, rfl⟩)
        rw [e] at h2
        rw [ih m (G k 2) (by omega) (by omega)]
      · rw [if_neg hp, if_neg hp]
/-- the depth, with room for every graph of ours -/
def dp (G : Nat → Nat → Nat) (nl s : Nat) : Nat := dpF G nl 20 s
theorem dp_link {ns nl : Nat} {G : Nat → Nat → Nat} {lv : Nat → Nat} (hG : GrOK ns nl G) (hL : ∀ k s, k < nl → src G k s → lv s < lv (G k 3)) (hb : ∀ s, lv s ≤ 20) {k : Nat} (hk : k < nl) : dp G nl (G k 3) = 1 + (if G k 0 = 112 then max (dp G nl (G k 1)) (dp G nl (G k 2)) else dp G nl (G k 1)) := by
  unfold dp
  rw [dpF_step hL 20 21 (G k 3) (hb _) (by omega), dpF_succ, drv_of hG hk]
theorem dp_le {G : Nat → Nat → Nat} {nl : Nat} {lv : Nat → Nat} (hL : ∀ k s, k < nl → src G k s → lv s < lv (G k 3)) : ∀ n s, lv s ≤ n → dpF G nl n s ≤ lv s := by
  intro n
  induction n with
  | zero => intro s _; exact Nat.zero_le _
  | succ n ih =>
    intro s hs
    rw [dpF_succ]
    cases h : drv G nl s with
    | none => exact Nat.zero_le _
    | some k =>
      obtain ⟨hk, e⟩ := drv_some h
      have h1 := hL k (G k 1) hk (Or.inl rfl)
      rw [e] at h1
      have i1 := ih (G k 1) (by omega)
      show 1 + (if G k 0 = 112 then max (dpF G nl n (G k 1)) (dpF G nl n (G k 2)) else dpF G nl n (G k 1)) ≤ lv s
      by_cases hp : G k 0 = 112
      · have h2 := hL k (G k 2) hk (Or.inr ⟨hp, rfl⟩)
        rw [e] at h2
        have i2 := ih (G k 2) (by omega)
        rw [if_pos hp]
        omega
      · rw [if_neg hp]
        omega
/-- the depth is a level itself -/
theorem dp_lev {ns nl : Nat} {G : Nat → Nat → Nat} {lv : Nat → Nat} (hG : GrOK ns nl G) (hL : Lev nl G lv) : Lev nl G (dp G nl) := by
  refine ⟨fun k s hk hs => ?_, fun s => ?_⟩
  · rw [dp_link hG hL.1 (fun s => by have := hL.2 s; omega) hk]
    rcases hs with rfl | ⟨hp, rfl⟩
    · split <;> omega
    · rw [if_pos hp]
      omega
  · unfold dp
    have h3 := hL.2 s
    rw [← dpF_step hL.1 3 20 s h3 (by omega)]
    exact Nat.le_trans (dp_le hL.1 3 s h3) h3
section DB9
variable {A E : Nat → Nat} {ls : Nat → List Nat} {nl nc nd : Nat} {S : Hp} {D : Dt} {G : Nat → Nat → Nat}
/-- the drivers, in an array -/
def DrA (G : Nat → Nat → Nat) (nl ns r : Nat) (D : Dt) : Prop := ∀ s, s < ns → D.AI r s = match drv G nl s with | none => -1 | some k => nI k
theorem nI_max {a b : Nat} (ha : a < 2 ^ 31) (hb : b < 2 ^ 31) : (if nI a < nI b then nI b else nI a) = nI (max a b) := by
  by_cases c : a < b
  · rw [if_pos (nI_lt c hb), Nat.max_eq_right (by omega)]
  · rw [if_neg (nI_nlt (by omega) ha), Nat.max_eq_left (by omega)]
theorem nI_nm {i : Nat} (hi : i < 2 ^ 31) : ¬ nI i = -1 := fun q => by
  have := congrArg Int32.toInt q
  rw [nI_toInt hi] at this
  have e2 : (-1 : Int32).toInt = -1 := rfl
  omega
end DB9
