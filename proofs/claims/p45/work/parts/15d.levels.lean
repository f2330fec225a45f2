/-! THE CLASS: levels -/
def mx (G : Nat → Nat → Nat) (k : Nat) (L : Nat → Nat) : Nat := if G k 0 = 112 then max (L (G k 1)) (L (G k 2)) else L (G k 1)
def lup (G : Nat → Nat → Nat) (k : Nat) (L : Nat → Nat) : Nat → Nat := fun s => if s = G k 3 then mx G k L + 1 else L s
def pas (G : Nat → Nat → Nat) : Nat → (Nat → Nat) → Nat → Nat
  | 0, L => L
  | k + 1, L => lup G k (pas G k L)
def pss (G : Nat → Nat → Nat) (nl : Nat) : Nat → Nat → Nat
  | 0 => fun _ => 0
  | p + 1 => pas G nl (pss G nl p)
def Inf (G : Nat → Nat → Nat) (nl : Nat) (L : Nat → Nat) : Prop := ∀ k, k < nl → L (G k 3) ≤ mx G k L + 1
section LV
variable {ns nl : Nat} {G : Nat → Nat → Nat} {L L' : Nat → Nat}
theorem mx_mono {k : Nat} (h : ∀ s, L s ≤ L' s) : mx G k L ≤ mx G k L' := by
  unfold mx
  have h1 := h (G k 1)
  have h2 := h (G k 2)
  by_cases c : G k 0 = 112
  · rw [if_pos c, if_pos c]
    omega
  · rw [if_neg c, if_neg c]
    exact h1
theorem lup_ge (h : Inf G nl L) {k : Nat} (hk : k < nl) (s : Nat) : L s ≤ lup G k L s := by
  unfold lup
  by_cases c : s = G k 3
  · rw [if_pos c, c]
    exact h k hk
  · rw [if_neg c]
    exact Nat.le_refl _
theorem lup_inf (hG : GrOK ns nl G) (h : Inf G nl L) {k : Nat} (hk : k < nl) : Inf G nl (lup G k L) := by
  intro k' hk'
  have hm := mx_mono (G := G) (k := k') (lup_ge h hk)
  by_cases c : k' = k
  · subst c
    have e : lup G k' L (G k' 3) = mx G k' L + 1 := if_pos rfl
    rw [e]
    omega
  · have e : lup G k L (G k' 3) = L (G k' 3) := if_neg (fun q => c (hG.2.2.2 k' k hk' hk q))
    rw [e]
    have := h k' hk'
    omega
theorem pas_inf (hG : GrOK ns nl G) (h : Inf G nl L) : ∀ j, j ≤ nl → Inf G nl (pas G j L) ∧ ∀ s, L s ≤ pas G j L s
  | 0, _ => ⟨h, fun _ => Nat.le_refl _⟩
  | j + 1, hj => by
    obtain ⟨h1, h2⟩ := pas_inf hG h j (by omega)
    exact ⟨lup_inf hG h1 (by omega), fun s => Nat.le_trans (h2 s) (lup_ge h1 (by omega) s)⟩
theorem pas_low (hG : GrOK ns nl G) (h : Inf G nl L) {p : Nat} (hp : ∀ s, dpF G nl p s ≤ L s) : ∀ j, j ≤ nl → ∀ k, k < j → dpF G nl (p + 1) (G k 3) ≤ pas G j L (G k 3)
  | 0, _ => fun k hk => absurd hk (Nat.not_lt_zero k)
  | j + 1, hj => by
    intro k hk
    obtain ⟨h1, h2⟩ := pas_inf hG h j (by omega)
    by_cases c : k = j
    · subst c
      have e : pas G (k + 1) L (G k 3) = mx G k (pas G k L) + 1 := if_pos rfl
      rw [e, dpF_succ, drv_of hG (by omega)]
      show 1 + mx G k (dpF G nl p) ≤ _
      have := mx_mono (G := G) (k := k) (fun s => Nat.le_trans (hp s) (h2 s))
      omega
    · exact Nat.le_trans (pas_low hG h hp j (by omega) k (by omega)) (lup_ge h1 (by omega) _)
theorem pss_inf (hG : GrOK ns nl G) : ∀ p, Inf G nl (pss G nl p)
  | 0 => fun _ _ => Nat.zero_le _
  | p + 1 => (pas_inf hG (pss_inf hG p) nl (Nat.le_refl _)).1
theorem pss_low (hG : GrOK ns nl G) : ∀ p s, dpF G nl p s ≤ pss G nl p s
  | 0, _ => Nat.zero_le _
  | p + 1, s => by
    cases e : drv G nl s with
    | none =>
      rw [dpF_succ, e]
      exact Nat.zero_le _
    | some k =>
      obtain ⟨hk, rfl⟩ := drv_some e
      exact pas_low hG (pss_inf hG p) (pss_low hG p) nl (Nat.le_refl _) k hk
theorem pas_up {lv : Nat → Nat} (hG : GrOK ns nl G) (hL : Lev nl G lv) (h : ∀ s, L s ≤ dp G nl s) : ∀ j, j ≤ nl → ∀ s, pas G j L s ≤ dp G nl s
  | 0, _ => h
  | j + 1, hj => by
    intro s
    have h1 := pas_up hG hL h j (by omega)
    show lup G j (pas G j L) s ≤ _
    unfold lup
    by_cases c : s = G j 3
    · rw [if_pos c, c, dp_link hG hL.1 (fun s => by have := hL.2 s; omega) (show j < nl by omega)]
      have : mx G j (pas G j L) ≤ mx G j (dp G nl) := mx_mono h1
      unfold mx at this ⊢
      omega
    · rw [if_neg c]
      exact h1 s
theorem pss_up {lv : Nat → Nat} (hG : GrOK ns nl G) (hL : Lev nl G lv) : ∀ p s, pss G nl p s ≤ dp G nl s
  | 0, _ => Nat.zero_le _
  | p + 1, s => pas_up hG hL (pss_up hG hL p) nl (Nat.le_refl _) s
theorem pas_le {B : Nat} (h : ∀ s, L s ≤ B) : ∀ j s, pas G j L s ≤ B + j
  | 0, s => h s
  | j + 1, s => by
    have h1 := pas_le h j
    show lup G j (pas G j L) s ≤ _
    unfold lup mx
    have a1 := h1 (G j 1)
    have a2 := h1 (G j 2)
    have a3 := h1 s
    by_cases c : s = G j 3
    · rw [if_pos c]
      by_cases c2 : G j 0 = 112
      · rw [if_pos c2]
        omega
      · rw [if_neg c2]
        omega
    · rw [if_neg c]
      omega
theorem pss_le : ∀ p s, pss G nl p s ≤ p * nl
  | 0, _ => Nat.zero_le _
  | p + 1, s => by
    have : pas G nl (pss G nl p) s ≤ p * nl + nl := pas_le (pss_le p) nl s
    rw [Nat.succ_mul]
    exact this
/-- the four passes find the depths, or one too deep -/
theorem pss_fit (hG : GrOK ns nl G) : (∀ s, s < ns → pss G nl 4 s ≤ 3) ↔ (∀ s, s < ns → dpF G nl 4 s ≤ 3) := by
  constructor
  · exact fun h s hs => Nat.le_trans (pss_low hG 4 s) (h s hs)
  · intro h s hs
    have hL := lev_fit hG h
    refine Nat.le_trans (pss_up hG hL 4 s) ?_
    exact (fit_lev hL 20 s (by omega)).2
theorem pss_dp {lv : Nat → Nat} (hG : GrOK ns nl G) (hL : Lev nl G lv) (s : Nat) : pss G nl 4 s = dp G nl s := by
  have h1 := pss_up hG hL 4 s
  have h2 := pss_low hG 4 s
  have e : dpF G nl 4 s = dp G nl s := dpF_step hL.1 4 20 s (by have := hL.2 s; omega) (by omega)
  omega
end LV
section LW
variable {A E : Nat → Nat} {ls : Nat → List Nat} {nl nc nd : Nat} {S : Hp} {D : Dt} {G : Nat → Nat → Nat}
theorem p_raise {Φ : Hp → Prop} {ns k : Nat} {L : Nat → Nat} (h : Rep A E ls nl nc nd S D) (hC : LkC G nl D) (hG : GrOK ns nl G) (hk : k < nl) (hv : ∀ s, s < 14 → D.AI 6 s = nI (L s)) (hb : ∀ s, L s < 1000)
    (kk : ∀ S' D', Rep A E ls nl nc nd S' D' → SamG (fun _ _ => False) (fun r => r = 6) (fun _ => False) D D' → (∀ s, s < 14 → D'.AI 6 s = nI (lup G k L s)) → Φ S') : wX7_raiseLevel S (A 0) (A (400 + k)) Φ := by
  obtain ⟨hns, hnl, hg, -⟩ := hG
  obtain ⟨hkk, hf, hs, ht⟩ := hg k hk
  have lk := lkS_of h hC hk (by omega)
  have a6 : isA S (A 6) 21 := rep_is h (al_s (by decide)) (by decide)
  have n6 : S.N (A 6) = 14 := rep_N h (al_s (by decide)) (by decide)
  have fr := rep_fr h (453, 0, 6) (by decide)
  have v1 : S.AI (A 6) (nI (G k 1)).toNatClampNeg = nI (L (G k 1)) := rd_I h (al_s (by decide)) (by omega) (hv _ (by omega))
  have fin : ∀ n, n = mx G k L → wX7_raiseLevel_b31 (A 0) (A (400 + k)) Φ S (nI n) := fun n hn => by
    unfold wX7_raiseLevel_b31
    refine ⟨c_is h, A 6, fr, lk.1, a6, by rw [lk.2.2.2.2.2.1, n6]; exact in_nI (by omega) (by decide), fun S2 e2 => ?_⟩
    rw [lk.2.2.2.2.2.1, cl_nI (by omega), ← nI_succ] at e2
    have h2 := set_AI h (r := 6) (G k 3) (nI (n + 1)) (al_s (by decide))
    rw [← e2] at h2
    refine kk S2 _ h2 (samG_I rfl) (fun s hs14 => ?_)
    unfold lup
    by_cases c : s = G k 3
    · rw [if_pos c, c, dtAI_s, hn]
    · rw [if_neg c, dtAI_n (fun q => c q.2)]
      exact hv s hs14
  unfold wX7_raiseLevel wX7_raiseLevel_b0
  rw [lk.2.2.2.1]
  refine ⟨c_is h, A 6, fr, lk.1, a6, by rw [n6]; exact in_nI (by omega) (by decide), ?_⟩
  rw [v1]
  refine p_hasSecond lk (fun e => by have := hs e; omega) (fun e => if_n (by decide) ⟨c_is h, A 6, fr, lk.1, a6, ?_⟩) (fun e => if_p rfl (fin _ (by unfold mx; rw [if_neg e])))
  have esec : S.FI 323 (A (400 + k)) = nI (G k 2) := lk.2.2.2.2.1.trans (if_pos e)
  have hs' := hs e
  have v2 : S.AI (A 6) (nI (G k 2)).toNatClampNeg = nI (L (G k 2)) := rd_I h (al_s (by decide)) (by omega) (hv _ (by omega))
  rw [esec, v2, n6, nI_max (by have := hb (G k 1); omega) (by have := hb (G k 2); omega)]
  exact ⟨in_nI (by omega) (by decide), fin _ (by unfold mx; rw [if_pos e])⟩
end LW
