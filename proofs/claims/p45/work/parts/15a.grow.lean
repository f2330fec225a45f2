/-! A GRAPH WITH ONE MORE LINK -/
def gx (G : Nat → Nat → Nat) (nl : Nat) (g : Nat → Nat) : Nat → Nat → Nat := fun k => if k = nl then g else G k
theorem gx_s {G : Nat → Nat → Nat} {nl : Nat} {g : Nat → Nat} : gx G nl g nl = g := if_pos rfl
theorem gx_n {G : Nat → Nat → Nat} {nl k : Nat} {g : Nat → Nat} (h : k < nl) : gx G nl g k = G k := if_neg (by omega)
theorem php : ∀ (ns nl : Nat) (f : Nat → Nat), (∀ k, k < nl → f k < ns) → (∀ k k', k < nl → k' < nl → f k = f k' → k = k') → nl ≤ ns := by
  intro ns
  induction ns with
  | zero =>
    intro nl f h _
    by_cases c : nl = 0
    · omega
    · exact absurd (h 0 (by omega)) (Nat.not_lt_zero _)
  | succ ns ih =>
    intro nl f h hi
    by_cases c : ∃ k, k < nl ∧ f k = ns
    · obtain ⟨k0, h0, e0⟩ := c
      have := ih (nl - 1) (fun k => if k < k0 then f k else f (k + 1)) (fun k hk => ?_) (fun k k' hk hk' e => ?_)
      · omega
      · by_cases ck : k < k0
        · rw [if_pos ck]
          have h1 := h k (by omega)
          have h2 : f k ≠ ns := fun q => by have := hi k k0 (by omega) h0 (q.trans e0.symm); omega
          omega
        · rw [if_neg ck]
          have h1 := h (k + 1) (by omega)
          have h2 : f (k + 1) ≠ ns := fun q => by have := hi (k + 1) k0 (by omega) h0 (q.trans e0.symm); omega
          omega
      · by_cases ck : k < k0
        · by_cases ck' : k' < k0
          · rw [if_pos ck, if_pos ck'] at e
            exact hi k k' (by omega) (by omega) e
          · rw [if_pos ck, if_neg ck'] at e
            have := hi k (k' + 1) (by omega) (by omega) e
            omega
        · by_cases ck' : k' < k0
          · rw [if_neg ck, if_pos ck'] at e
            have := hi (k + 1) k' (by omega) (by omega) e
            omega
          · rw [if_neg ck, if_neg ck'] at e
            have := hi (k + 1) (k' + 1) (by omega) (by omega) e
            omega
    · have := ih nl f (fun k hk => ?_) hi
      · omega
      · have h1 := h k hk
        have h2 : f k ≠ ns := fun q => c ⟨k, hk, q⟩
        omega
section GX
variable {ns nl : Nat} {G : Nat → Nat → Nat} {g : Nat → Nat}
theorem gr_ext (hG : GrOK ns nl G) (hk : kOK (gx G nl g) nl) (h1 : g 1 < ns) (h2 : g 0 = 112 → g 2 < ns) (h3 : g 3 < ns) (hd : drv G nl (g 3) = none) : GrOK ns (nl + 1) (gx G nl g) := by
  have hinj : ∀ k k', k < nl + 1 → k' < nl + 1 → gx G nl g k 3 = gx G nl g k' 3 → k = k' := by
    intro k k' a b e
    have hn := drv_none.mp hd
    by_cases c : k = nl
    · by_cases c' : k' = nl
      · omega
      · rw [c, gx_s, gx_n (by omega)] at e
        exact absurd e.symm (hn k' (by omega))
    · by_cases c' : k' = nl
      · rw [c', gx_s, gx_n (by omega)] at e
        exact absurd e (hn k (by omega))
      · rw [gx_n (by omega), gx_n (by omega)] at e
        exact hG.2.2.2 k k' (by omega) (by omega) e
  have hto : ∀ k, k < nl + 1 → gx G nl g k 3 < ns := by
    intro k a
    by_cases c : k = nl
    · rw [c, gx_s]
      exact h3
    · rw [gx_n (by omega)]
      exact (hG.2.2.1 k (by omega)).2.2.2
  have hle := php ns (nl + 1) (fun k => gx G nl g k 3) hto hinj
  have hns := hG.1
  refine ⟨hns, by omega, fun k a => ?_, hinj⟩
  by_cases c : k = nl
  · subst c
    refine ⟨hk, ?_, ?_, ?_⟩
    · rw [gx_s]; exact h1
    · rw [gx_s]; exact h2
    · rw [gx_s]; exact h3
  · obtain ⟨b1, b2, b3, b4⟩ := hG.2.2.1 k (by omega)
    refine ⟨?_, ?_, ?_, ?_⟩
    · unfold kOK
      rw [gx_n (by omega)]
      exact b1
    · rw [gx_n (by omega)]; exact b2
    · rw [gx_n (by omega)]; exact b3
    · rw [gx_n (by omega)]; exact b4
theorem drv_ext (hG : GrOK ns nl G) (hd : drv G nl (g 3) = none) (s : Nat) : drv (gx G nl g) (nl + 1) s = if s = g 3 then some nl else drv G nl s := by
  have hn := drv_none.mp hd
  by_cases c : s = g 3
  · rw [if_pos c]
    cases e : drv (gx G nl g) (nl + 1) s with
    | none =>
      have := drv_none.mp e nl (by omega)
      rw [gx_s] at this
      exact absurd c.symm this
    | some k =>
      obtain ⟨a, b⟩ := drv_some e
      by_cases ck : k = nl
      · rw [ck]
      · rw [gx_n (by omega), c] at b
        exact absurd b (hn k (by omega))
  · rw [if_neg c]
    cases e : drv G nl s with
    | none =>
      have h0 := drv_none.mp e
      refine drv_none.mpr (fun k hk => ?_)
      by_cases ck : k = nl
      · rw [ck, gx_s]
        exact fun q => c q.symm
      · rw [gx_n (by omega)]
        exact h0 k (by omega)
    | some k =>
      obtain ⟨a, b⟩ := drv_some e
      cases e' : drv (gx G nl g) (nl + 1) s with
      | none =>
        have := drv_none.mp e' k (by omega)
        rw [gx_n a] at this
        exact absurd b this
      | some k' =>
        obtain ⟨a', b'⟩ := drv_some e'
        by_cases ck : k' = nl
        · rw [ck, gx_s] at b'
          exact absurd b'.symm c
        · rw [gx_n (by omega)] at b'
          rw [hG.2.2.2 k k' a (by omega) (b.trans b'.symm)]
theorem dpF_stop : ∀ n s, dpF G nl (n + 1) s ≤ n → dpF G nl (n + 1) s = dpF G nl n s := by
  intro n
  induction n with
  | zero =>
    intro s h
    have h0 : dpF G nl 0 s = 0 := rfl
    omega
  | succ n ih =>
    intro s h
    rw [dpF_succ] at h ⊢
    rw [dpF_succ G nl n]
    cases e : drv G nl s with
    | none => rfl
    | some k =>
      rw [e] at h
      have h : 1 + (if G k 0 = 112 then max (dpF G nl (n + 1) (G k 1)) (dpF G nl (n + 1) (G k 2)) else dpF G nl (n + 1) (G k 1)) ≤ n + 1 := h
      show 1 + (if G k 0 = 112 then max (dpF G nl (n + 1) (G k 1)) (dpF G nl (n + 1) (G k 2)) else dpF G nl (n + 1) (G k 1)) = 1 + (if G k 0 = 112 then max (dpF G nl n (G k 1)) (dpF G nl n (G k 2)) else dpF G nl n (G k 1))
      by_cases c : G k 0 = 112
      · rw [if_pos c] at h
        rw [if_pos c, if_pos c, ih (G k 1) (by omega), ih (G k 2) (by omega)]
      · rw [if_neg c] at h
        rw [if_neg c, if_neg c, ih (G k 1) (by omega)]
theorem lev_fit (hG : GrOK ns nl G) (h : ∀ s, s < ns → dpF G nl 4 s ≤ 3) : Lev nl G (dpF G nl 3) := by
  have h' : ∀ s, dpF G nl 4 s ≤ 3 := fun s => by
    by_cases c : s < ns
    · exact h s c
    · have e : drv G nl s = none := drv_none.mpr (fun k hk q => c (by have := (hG.2.2.1 k hk).2.2.2; omega))
      rw [dpF_succ, e]
      exact Nat.zero_le 3
  refine ⟨fun k s hk hs => ?_, fun s => by rw [← dpF_stop 3 s (h' s)]; exact h' s⟩
  rw [← dpF_stop 3 (G k 3) (h' _), dpF_succ G nl 3 (G k 3), drv_of hG hk]
  show dpF G nl 3 s < 1 + (if G k 0 = 112 then max (dpF G nl 3 (G k 1)) (dpF G nl 3 (G k 2)) else dpF G nl 3 (G k 1))
  rcases hs with rfl | ⟨hp, rfl⟩
  · by_cases c : G k 0 = 112
    · rw [if_pos c]
      omega
    · rw [if_neg c]
      omega
  · rw [if_pos hp]
    omega
theorem fit_lev {lv : Nat → Nat} (hL : Lev nl G lv) (n s : Nat) (hn : 3 ≤ n) : dpF G nl n s = dpF G nl 3 s ∧ dpF G nl n s ≤ 3 := by
  have h3 := hL.2 s
  refine ⟨(dpF_step hL.1 3 n s h3 hn).symm, ?_⟩
  rw [← dpF_step hL.1 3 n s h3 hn]
  exact Nat.le_trans (dp_le hL.1 3 s h3) h3
end GX
