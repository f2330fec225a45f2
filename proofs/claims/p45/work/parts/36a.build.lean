/-! HOW THE LAW BEGINS: its links. Written by wip/p45/gen/own36.py -/
abbrev Zr : Nat → Rat := fun _ => 0
abbrev Zi : Nat → Int := fun _ => 0
abbrev Zb : Nat → Bool := fun _ => false
abbrev Zg : Nat → Nat → Nat := fun _ _ => 0
theorem fl_0 (t : Int) : fl t 0 = 0 := by
  have e : (0 : Rat).num = 0 := rfl
  unfold fl
  rw [e, Int.mul_zero, Int.zero_ediv]
theorem mk_0 {nl a : Nat} {f : Nat} : (fun k => if k = nl then fl (a : Nat) (Zr f) else Zi k) = Zi := by
  funext k
  by_cases c : k = nl
  · rw [if_pos c]
    exact fl_0 _
  · rw [if_neg c]
theorem drv_u {G : Nat → Nat → Nat} {nl s k : Nat} (hk : k < nl) (h : G k 3 = s) (hu : ∀ k', k' < nl → G k' 3 = s → k' = k) : drv G nl s = some k := by
  cases e : drv G nl s with
  | none => exact absurd h (drv_none.mp e k hk)
  | some k' =>
    obtain ⟨h1, h2⟩ := drv_some e
    rw [hu k' h1 h2]
/-- how far behind each shaft is -/
def lv45 (s : Nat) : Nat := if s = 1 then 1 else if s = 2 ∨ s = 4 then 2 else 0
theorem lv45_le (s : Nat) : lv45 s ≤ 3 := by
  unfold lv45
  by_cases c : s = 1
  · rw [if_pos c]
    decide
  · rw [if_neg c]
    by_cases c2 : s = 2 ∨ s = 4
    · rw [if_pos c2]
      decide
    · rw [if_neg c2]
      decide
theorem addr5 {nl : Nat} {A A' : Nat → Nat} (h : SamA nl 5 A A') : A' 0 = A 0 ∧ A' 500 = A 500 ∧ A' 501 = A 501 ∧ A' 502 = A 502 ∧ A' 503 = A 503 ∧ A' 504 = A 504 := ⟨h.z, h.a (by decide) (by decide), h.a (by decide) (by decide), h.a (by decide) (by decide), h.a (by decide) (by decide), h.a (by decide) (by decide)⟩
theorem SamA.nl {nl nl' nc : Nat} {A A' : Nat → Nat} (h : SamA nl' nc A A') (hl : nl ≤ nl') : SamA nl nc A A' := fun r hr => h r (al_sub hl (Nat.le_refl _) (Nat.le_refl _) hr)
/-- froms and tos -/
def FT (D : Dt) : Prop := (D.AI 503 0 = nI 0 ∧ D.AI 503 1 = nI 1 ∧ D.AI 503 2 = nI 1) ∧ D.AI 504 0 = nI 1 ∧ D.AI 504 1 = nI 2
theorem FT.cg {D D' : Dt} (h : FT D) (e3 : D'.AI 503 = D.AI 503) (e4 : D'.AI 504 = D.AI 504) : FT D' := by
  unfold FT
  rw [e3, e4]
  exact h
theorem dI_row {D : Dt} {r r' i : Nat} {v : Int32} (h : r' ≠ r) : (D.setAI r i v).AI r' = D.AI r' := up2_row h
theorem dJ_row {D : Dt} {r r' i : Nat} {v : Int64} (h : r' ≠ r) : (D.setAJ r i v).AJ r' = D.AJ r' := up2_row h
section BG45
variable {A E : Nat → Nat} {ls : Nat → List Nat} {n : Nat} {G : Nat → Nat → Nat} {ol : List Nat} {S : Hp} {D : Dt} {x0 : Nat → Int32} {L9 : Nat} {v2 : Int32}
/-- a link is made, with what is refused around it -/
theorem p_mk3 {k132 : KD45} {j κ a b : Nat} (h : ZA A E ls 5 j 5 0 G Zr Zr Zi Zb ol S D) (hj : j < 2) (hF : FT D) (hK : KAB κ a b) (e0 : D.AI 500 j = nI κ) (e1 : D.AI 501 j = nI a) (hd : drv G j (j + 1) = none) (hlv : ∀ s, s < 5 → dpF (gx G j (lrow κ j 0 (j + 1) a b)) (j + 1) 4 s ≤ 3)
    (kk : ∀ S' A' E' ls' ol' D', ZA A' E' ls' 5 (j + 1) 5 0 (gx G j (lrow κ j 0 (j + 1) a b)) Zr Zr Zi Zb ol' S' D' → SamA j 5 A A' → D'.AI 500 = D.AI 500 → D'.AI 501 = D.AI 501 → D'.AI 502 j = nI b → (∀ i, i ≠ j → D'.AI 502 i = D.AI 502 i) → D'.AI 503 = D.AI 503 → D'.AI 504 = D.AI 504 → k132 S' (A 0) 1 (A 500) (A 501) (A 502) (A 503) (A 504) (nI j + 1)) : wL_law_b293 x0 L9 k132 S (A 0) 1 (A 500) (A 501) (A 502) (A 503) (A 504) (nI j) (A 502) (nI j) (nI b) := by
  obtain ⟨q1, q2, q3, -⟩ := kab_sm hK
  have hm := kab_mn hK
  have fr : ∀ D' : Dt, FT D' → D'.AI 503 j = nI j ∧ D'.AI 504 j = nI (j + 1) := fun D' hF => by
    rcases (show j = 0 ∨ j = 1 by omega) with rfl | rfl
    · exact ⟨hF.1.1, hF.2.1⟩
    · exact ⟨hF.1.2.1, hF.2.2⟩
  have gi : ∀ {A E : Nat → Nat} {ls : Nat → List Nat} {G : Nat → Nat → Nat} {ol : List Nat} {nl : Nat} {S : Hp} {D : Dt}, ZA A E ls 5 nl 5 0 G Zr Zr Zi Zb ol S D → (isA S (A 500) 20 ∧ vp_in (nI j) (S.N (A 500))) ∧ (isA S (A 501) 21 ∧ vp_in (nI j) (S.N (A 501))) ∧ (isA S (A 502) 21 ∧ vp_in (nI j) (S.N (A 502))) ∧ (isA S (A 503) 21 ∧ vp_in (nI j) (S.N (A 503))) ∧ (isA S (A 504) 21 ∧ vp_in (nI j) (S.N (A 504))) := fun h => ⟨⟨h.is (by decide) (by decide) rfl, h.in (r := 500) (m := 4) (by decide) (by decide) rfl (by omega) (by decide)⟩, ⟨h.is (by decide) (by decide) rfl, h.in (r := 501) (m := 4) (by decide) (by decide) rfl (by omega) (by decide)⟩, ⟨h.is (by decide) (by decide) rfl, h.in (r := 502) (m := 4) (by decide) (by decide) rfl (by omega) (by decide)⟩, ⟨h.is (by decide) (by decide) rfl, h.in (r := 503) (m := 3) (by decide) (by decide) rfl (by omega) (by decide)⟩, ⟨h.is (by decide) (by decide) rfl, h.in (r := 504) (m := 3) (by decide) (by decide) rfl (by omega) (by decide)⟩⟩
  obtain ⟨-, -, g2, -⟩ := gi h
  unfold wL_law_b293
  refine ⟨g2.1, g2.2, fun S3 e3 => ?_⟩
  rw [cl_nI (by omega)] at e3
  have h3 := h.setAI (r := 502) j (nI b) (by decide) (by decide)
  rw [← e3] at h3
  have u0 : (D.setAI 502 j (nI b)).AI 500 = D.AI 500 := dI_row (by decide)
  have u1 : (D.setAI 502 j (nI b)).AI 501 = D.AI 501 := dI_row (by decide)
  have u2 : (D.setAI 502 j (nI b)).AI 502 j = nI b := dtAI_s
  have u2n : ∀ i, i ≠ j → (D.setAI 502 j (nI b)).AI 502 i = D.AI 502 i := fun i hi => dtAI_n (fun q => hi q.2)
  have u3 : (D.setAI 502 j (nI b)).AI 503 = D.AI 503 := dI_row (by decide)
  have u4 : (D.setAI 502 j (nI b)).AI 504 = D.AI 504 := dI_row (by decide)
  generalize D.setAI 502 j (nI b) = D3 at *
  have hF3 := hF.cg u3 u4
  have w0 : ∀ D' : Dt, Kpt D3 D' → D'.AI 500 j = nI κ ∧ D'.AI 501 j = nI a ∧ D'.AI 502 j = nI b ∧ D'.AI 503 j = nI j ∧ D'.AI 504 j = nI (j + 1) := fun D' k => by
    rw [k.1 500 (by decide), k.1 501 (by decide), k.1 502 (by decide), k.1 503 (by decide), k.1 504 (by decide), u0, u1]
    exact ⟨e0, e1, u2, (fr D3 hF3).1, (fr D3 hF3).2⟩
  obtain ⟨g0, g1, g2, g3, g4⟩ := gi h3
  obtain ⟨r0, r1, r2, r3, r4⟩ := w0 D3 Kpt.rf
  rw [h3.I (r := 500) (by decide) (by decide) (by omega) r0, h3.I (r := 501) (by decide) (by decide) (by omega) r1, h3.I (r := 502) (by decide) (by decide) (by omega) r2, h3.I (r := 503) (by decide) (by decide) (by omega) r3]
  refine ⟨g0.1, g0.2, g3.1, g3.2, g3.2, g1.1, g1.2, g2.1, g2.2, o_link3 h3 (by omega) (by omega) hm ⟨q1, q2, q3⟩ (Or.inl rfl) (fun S13 A1 D13 h13 sa1 k1 => fi_p rfl ?_)⟩
  obtain ⟨b0, b1, b2, b3, b4, b5⟩ := addr5 sa1
  rw [← b0, ← b1, ← b2, ← b3, ← b4, ← b5]
  obtain ⟨g0, g1, g2, g3, g4⟩ := gi h13
  obtain ⟨r0, r1, r2, r3, r4⟩ := w0 D13 k1
  rw [h13.I (r := 500) (by decide) (by decide) (by omega) r0, h13.I (r := 501) (by decide) (by decide) (by omega) r1, h13.I (r := 502) (by decide) (by decide) (by omega) r2, h13.I (r := 503) (by decide) (by decide) (by omega) r3, h13.I (r := 504) (by decide) (by decide) (by omega) r4]
  refine ⟨g0.1, g0.2, g3.1, g3.2, g4.1, g4.2, g1.1, g1.2, g2.1, g2.2, o_link4 h13 (by omega) (by omega) hm ⟨q1, q2, q3⟩ (by omega) hd hlv (fun S26 A2 E2 ls2 ol2 D26 h26 sa2 k2 hk2 => fi_p rfl ?_)⟩
  rw [mk_0] at h26
  obtain ⟨c0, c1, c2, c3, c4, c5⟩ := addr5 sa2
  rw [← c0, ← c1, ← c2, ← c3, ← c4, ← c5]
  obtain ⟨g0, g1, g2, g3, g4⟩ := gi h26
  obtain ⟨r0, r1, r2, r3, r4⟩ := w0 D26 (k1.tr k2)
  have hne : drv (gx G j (lrow κ j 0 (j + 1) a b)) (j + 1) (j + 1) ≠ none := fun e => by
    have := drv_none.mp e j (by omega)
    rw [gx_s] at this
    exact this rfl
  rw [h26.I (r := 500) (by decide) (by decide) (by omega) r0, h26.I (r := 501) (by decide) (by decide) (by omega) r1, h26.I (r := 502) (by decide) (by decide) (by omega) r2, h26.I (r := 504) (by decide) (by decide) (by omega) r4]
  refine ⟨g0.1, g0.2, g4.1, g4.2, g1.1, g1.2, g2.1, g2.2, o_link3 (f := 3) h26 (by omega) (by omega) hm ⟨q1, q2, q3⟩ (Or.inr (Or.inl hne)) (fun S37 A3 D37 h37 sa3 k3 => fi_p rfl ?_)⟩
  unfold wL_law_b395
  have sa : SamA j 5 A A3 := (sa1.tr sa2).tr (sa3.nl (by omega))
  rw [and11, c0, c1, c2, c3, c4, c5, b0, b1, b2, b3, b4, b5]
  have k9 := (k1.tr k2).tr k3
  refine kk S37 A3 E2 ls2 ol2 D37 h37 sa ((k9.1 500 (by decide)).trans u0) ((k9.1 501 (by decide)).trans u1) ?_ (fun i hi => ?_) ((k9.1 503 (by decide)).trans u3) ((k9.1 504 (by decide)).trans u4)
  · rw [k9.1 502 (by decide)]
    exact u2
  · rw [k9.1 502 (by decide)]
    exact u2n i hi
/-- a link is chosen and made -/
theorem p_mk {k132 : KD45} {j : Nat} (h : ZA A E ls 5 j 5 0 G Zr Zr Zi Zb ol S D) (hL : L9 ≤ 260) (hj : j < 2) (hF : FT D) (hd : drv G j (j + 1) = none) (hlv : ∀ κ a b, KAB κ a b → ∀ s, s < 5 → dpF (gx G j (lrow κ j 0 (j + 1) a b)) (j + 1) 4 s ≤ 3)
    (kk : ∀ κ a b S' A' E' ls' ol' D', KAB κ a b → ZA A' E' ls' 5 (j + 1) 5 0 (gx G j (lrow κ j 0 (j + 1) a b)) Zr Zr Zi Zb ol' S' D' → SamA j 5 A A' → D'.AI 500 j = nI κ → D'.AI 501 j = nI a → D'.AI 502 j = nI b → (∀ i, i ≠ j → D'.AI 500 i = D.AI 500 i ∧ D'.AI 501 i = D.AI 501 i ∧ D'.AI 502 i = D.AI 502 i) → D'.AI 503 = D.AI 503 → D'.AI 504 = D.AI 504 → k132 S' (A 0) 1 (A 500) (A 501) (A 502) (A 503) (A 504) (nI j + 1)) : wL_law_b132 x0 L9 k132 S (A 0) 1 (A 500) (A 501) (A 502) (A 503) (A 504) (nI j) := by
  -- the kind stands, the first number is known
  have st2 : ∀ (κ a : Nat) (v9 : Int32) {S2 : Hp} {D2 : Dt}, ZA A E ls 5 j 5 0 G Zr Zr Zi Zb ol S2 D2 → (∀ i, i ≠ j → D2.AI 500 i = D.AI 500 i) → (∀ r, r ≠ 500 → D2.AI r = D.AI r) → D2.AI 500 j = nI κ → ((v9 = 0 ∨ v9 = 1) → κ = 103 ∨ κ = 105) → ((v9 = 0 ∨ v9 = 1) → ∀ b, 6 ≤ b → b ≤ 30 → KAB κ a b) → (v9 = 2 ∨ v9 = 3 ∨ v9 = 4 → KAB κ a 0) → (v9 = 0 ∨ v9 = 1 ∨ v9 = 2 ∨ v9 = 3 ∨ v9 = 4) → wL_law_b265 x0 L9 k132 S2 (A 0) 1 (A 500) (A 501) (A 502) (A 503) (A 504) (nI j) v9 (A 501) (nI j) (nI a) := fun κ a v9 {S2 D2} h2 o0 o1 e0 _ hK1 hK2 h9 => by
    unfold wL_law_b265
    refine ⟨h2.is (by decide) (by decide) rfl, h2.in (r := 501) (m := 4) (by decide) (by decide) rfl (by omega) (by decide), fun S3 e3 => ?_⟩
    rw [cl_nI (by omega)] at e3
    have h3 := h2.setAI (r := 501) j (nI a) (by decide) (by decide)
    rw [← e3] at h3
    have u0 : (D2.setAI 501 j (nI a)).AI 500 = D2.AI 500 := dI_row (by decide)
    have u1 : (D2.setAI 501 j (nI a)).AI 501 j = nI a := dtAI_s
    have u1n : ∀ i, i ≠ j → (D2.setAI 501 j (nI a)).AI 501 i = D2.AI 501 i := fun i hi => dtAI_n (fun q => hi q.2)
    have un : ∀ r, r ≠ 501 → (D2.setAI 501 j (nI a)).AI r = D2.AI r := fun r hr => dI_row hr
    generalize D2.setAI 501 j (nI a) = D3 at *
    have hF3 : FT D3 := hF.cg ((un 503 (by decide)).trans (o1 503 (by decide))) ((un 504 (by decide)).trans (o1 504 (by decide)))
    have fin : ∀ b, KAB κ a b → wL_law_b293 x0 L9 k132 S3 (A 0) 1 (A 500) (A 501) (A 502) (A 503) (A 504) (nI j) (A 502) (nI j) (nI b) := fun b hK =>
      p_mk3 h3 hj hF3 hK (by rw [u0]; exact e0) u1 hd (hlv κ a b hK) (fun S' A' E' ls' ol' D' h' sa c0 c1 c2 c2n c3 c4 => kk κ a b S' A' E' ls' ol' D' hK h' sa (by rw [c0, u0]; exact e0) (by rw [c1]; exact u1) c2 (fun i hi => ⟨by rw [c0, u0]; exact o0 i hi, by rw [c1, u1n i hi, o1 501 (by decide)], by rw [c2n i hi, un 502 (by decide), o1 502 (by decide)]⟩) (by rw [c3, un 503 (by decide), o1 503 (by decide)]) (by rw [c4, un 504 (by decide), o1 504 (by decide)]))
    rcases h9 with h9 | h9 | h9 | h9 | h9
    · refine if_n (by rw [h9]; decide) (p_in (i := 4 + j) (m := 25) (nI_add 4 j) rfl hL (by omega) (by decide) (by decide) (fun r hr => ?_))
      have e6 : (6 : Int32) + nI r = nI (6 + r) := nI_add 6 r
      rw [e6]
      exact fin _ (hK1 (Or.inl h9) _ (by omega) (by omega))
    · refine if_n (by rw [h9]; decide) (p_in (i := 4 + j) (m := 25) (nI_add 4 j) rfl hL (by omega) (by decide) (by decide) (fun r hr => ?_))
      have e6 : (6 : Int32) + nI r = nI (6 + r) := nI_add 6 r
      rw [e6]
      exact fin _ (hK1 (Or.inr h9) _ (by omega) (by omega))
    · exact if_p (by rw [h9]; decide) (fin 0 (hK2 (Or.inl h9)))
    · exact if_p (by rw [h9]; decide) (fin 0 (hK2 (Or.inr (Or.inl h9))))
    · exact if_p (by rw [h9]; decide) (fin 0 (hK2 (Or.inr (Or.inr h9))))
  -- the kind is put down
  have st1 : ∀ (κ : Nat) (v9 : Int32), nc (nI κ) → (v9 = 0 ∧ κ = 103) ∨ (v9 = 1 ∧ κ = 105) ∨ (v9 = 2 ∧ κ = 118) ∨ (v9 = 3 ∧ κ = 114) ∨ (v9 = 4 ∧ κ = 107) → wL_law_b195 x0 L9 k132 S (A 0) 1 (A 500) (A 501) (A 502) (A 503) (A 504) (nI j) v9 (A 500) (nI j) (nI κ) := fun κ v9 hnc h9 => by
    unfold wL_law_b195
    refine ⟨h.is (by decide) (by decide) rfl, h.in (r := 500) (m := 4) (by decide) (by decide) rfl (by omega) (by decide), hnc, fun S4 e4 => ?_⟩
    rw [cl_nI (by omega)] at e4
    have h4 := h.setAI (r := 500) j (nI κ) (by decide) (by decide)
    rw [← e4] at h4
    have u0 : (D.setAI 500 j (nI κ)).AI 500 j = nI κ := dtAI_s
    have u0n : ∀ i, i ≠ j → (D.setAI 500 j (nI κ)).AI 500 i = D.AI 500 i := fun i hi => dtAI_n (fun q => hi q.2)
    have un : ∀ r, r ≠ 500 → (D.setAI 500 j (nI κ)).AI r = D.AI r := fun r hr => dI_row hr
    rcases h9 with ⟨h9, k9⟩ | ⟨h9, k9⟩ | ⟨h9, k9⟩ | ⟨h9, k9⟩ | ⟨h9, k9⟩
    · refine if_n (by rw [h9]; decide) (p_in (i := 2 + j) (m := 25) (nI_add 2 j) rfl hL (by omega) (by decide) (by decide) (fun r hr => ?_))
      have e6 : (6 : Int32) + nI r = nI (6 + r) := nI_add 6 r
      rw [e6]
      exact st2 κ _ v9 h4 u0n un u0 (fun _ => Or.inl k9) (fun _ b b1 b2 => Or.inl ⟨Or.inl k9, by omega, by omega, b1, b2⟩) (fun q => by rw [h9] at q; exact absurd q (by decide)) (Or.inl h9)
    · refine if_n (by rw [h9]; decide) (p_in (i := 2 + j) (m := 25) (nI_add 2 j) rfl hL (by omega) (by decide) (by decide) (fun r hr => ?_))
      have e6 : (6 : Int32) + nI r = nI (6 + r) := nI_add 6 r
      rw [e6]
      exact st2 κ _ v9 h4 u0n un u0 (fun _ => Or.inr k9) (fun _ b b1 b2 => Or.inl ⟨Or.inr k9, by omega, by omega, b1, b2⟩) (fun q => by rw [h9] at q; exact absurd q (by decide)) (Or.inr (Or.inl h9))
    · refine if_p (by rw [h9]; decide) (fi_p h9 (p_in (i := 2 + j) (m := 10) (nI_add 2 j) rfl hL (by omega) (by decide) (by decide) (fun r hr => ?_)))
      have e6 : (3 : Int32) + nI r = nI (3 + r) := nI_add 3 r
      rw [e6]
      exact st2 κ _ v9 h4 u0n un u0 (fun q => by rw [h9] at q; exact absurd q (by decide)) (fun q => by rw [h9] at q; exact absurd q (by decide)) (fun _ => Or.inr (Or.inl ⟨k9, by omega, by omega, rfl⟩)) (Or.inr (Or.inr (Or.inl h9)))
    · refine if_p (by rw [h9]; decide) (fi_n (by rw [h9]; decide) (fi_p h9 (p_in (i := 2 + j) (m := 22) (nI_add 2 j) rfl hL (by omega) (by decide) (by decide) (fun r hr => ?_))))
      have e6 : (3 : Int32) + nI r = nI (3 + r) := nI_add 3 r
      rw [e6]
      exact st2 κ _ v9 h4 u0n un u0 (fun q => by rw [h9] at q; exact absurd q (by decide)) (fun q => by rw [h9] at q; exact absurd q (by decide)) (fun _ => Or.inr (Or.inr (Or.inl ⟨k9, by omega, by omega, rfl⟩))) (Or.inr (Or.inr (Or.inr (Or.inl h9))))
    · refine if_p (by rw [h9]; decide) (fi_n (by rw [h9]; decide) (fi_n (by rw [h9]; decide) ?_))
      exact st2 κ 0 v9 h4 u0n un u0 (fun q => by rw [h9] at q; exact absurd q (by decide)) (fun q => by rw [h9] at q; exact absurd q (by decide)) (fun _ => Or.inr (Or.inr (Or.inr ⟨k9, rfl, rfl⟩))) (Or.inr (Or.inr (Or.inr (Or.inr h9))))
  unfold wL_law_b132
  refine if_n (nI_ge (b := 2) hj (by decide)) (p_in (i := j) (m := 5) rfl rfl hL (by omega) (by decide) (by decide) (fun r hr => ?_))
  rcases (show r = 0 ∨ r = 1 ∨ r = 2 ∨ r = 3 ∨ r = 4 by omega) with rfl | rfl | rfl | rfl | rfl
  · exact fi_p rfl (st1 103 0 ⟨by decide, by decide⟩ (Or.inl ⟨rfl, rfl⟩))
  · exact fi_n (by decide) (fi_p rfl (st1 105 1 ⟨by decide, by decide⟩ (Or.inr (Or.inl ⟨rfl, rfl⟩))))
  · exact fi_n (by decide) (fi_n (by decide) (fi_p rfl (st1 118 2 ⟨by decide, by decide⟩ (Or.inr (Or.inr (Or.inl ⟨rfl, rfl⟩))))))
  · exact fi_n (by decide) (fi_n (by decide) (fi_n (by decide) (fi_p rfl (st1 114 3 ⟨by decide, by decide⟩ (Or.inr (Or.inr (Or.inr (Or.inl ⟨rfl, rfl⟩))))))))
  · exact fi_n (by decide) (fi_n (by decide) (fi_n (by decide) (fi_n (by decide) (st1 107 4 ⟨by decide, by decide⟩ (Or.inr (Or.inr (Or.inr (Or.inr ⟨rfl, rfl⟩))))))))
end BG45
