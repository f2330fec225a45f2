/-! THE REFERENCE: is a way uneven -/
section MU9
variable {A E : Nat → Nat} {ls : Nat → List Nat} {nl nc nd : Nat} {S : Hp} {D : Dt} {G : Nat → Nat → Nat}
theorem lkM_read (h : Rep A E ls nl nc nd S D) (hM : LkM G nl D) {k : Nat} (hk : k < nl) (hk16 : k < 16) : S.AI (A 81) (nI k).toNatClampNeg = nI (G k 0) ∧ S.AI (A 82) (nI k).toNatClampNeg = nI (G k 1) ∧ S.AI (A 83) (nI k).toNatClampNeg = sec G k ∧ S.AI (A 84) (nI k).toNatClampNeg = nI (G k 3) ∧ S.AI (A 85) (nI k).toNatClampNeg = nI (G k 4) ∧ S.AI (A 86) (nI k).toNatClampNeg = nI (G k 5) := by
  obtain ⟨g1, g2, g3, g4, g5, g6⟩ := hM k hk
  exact ⟨rd_I h (al_s (by decide)) (by omega) g1, rd_I h (al_s (by decide)) (by omega) g2, rd_I h (al_s (by decide)) (by omega) g3, rd_I h (al_s (by decide)) (by omega) g4, rd_I h (al_s (by decide)) (by omega) g5, rd_I h (al_s (by decide)) (by omega) g6⟩
theorem bh_19 {lv : Nat → Nat} (hL : Lev nl G lv) {inp s : Nat} : bhF G nl inp 19 s = bh G nl inp s := bhF_step hL.1 19 20 s (by have := hL.2 s; omega) (by decide)
theorem p_isUnevenM {ns inp : Nat} {brk B : Nat → Bool} (hG : GrOK ns nl G) {lv : Nat → Nat} (hL : Lev nl G lv) (hi : inp < ns) (hd0 : drv G nl inp = none) (hM : LkM G nl D) (hdr : DrA G nl ns 79 D) (hb : ∀ k, k < nl → D.AI 88 k = bI (brk k)) (hB : UnV G nl inp brk B) : ∀ (n s : Nat) (S : Hp) (Φ : Hp → Int32 → Prop), Rep A E ls nl nc nd S D → s < ns → lv s ≤ n → Φ S (bI (B s)) → wX8_isUneven (n + 1) S (A 70) (nI s) (nI inp) Φ := by
  have hG' := hG
  obtain ⟨hns, hnl, hg, -⟩ := hG'
  have hb20 : ∀ s, lv s ≤ 20 := fun s => by have := hL.2 s; omega
  intro n
  induction n with
  | zero =>
    intro s S Φ h hs hlv hk
    have hn := lev0 hL.1 (s := s) (by omega)
    have a79 := m_arr h 519 79 21 14
    have v79 : S.AI (A 79) (nI s).toNatClampNeg = -1 := rd_I h (al_s (by decide)) (by omega) (by rw [hdr s hs, hn])
    rw [hB s, hn] at hk
    show wX8_isUneven_b0 _ _ _ _ _ _
    unfold wX8_isUneven_b0
    refine ⟨m_is h, A 79, a79.1, a79.2.1, by rw [a79.2.2]; exact in_nI (by omega) (by decide), ?_⟩
    by_cases c : s = inp
    · exact if_p (by rw [c]) hk
    · refine if_n (fun q => c ((nI_iff (by omega) (by omega)).mp q)) ?_
      rw [v79]
      exact if_p rfl hk
  | succ n ih =>
    intro s S Φ h hs hlv hk
    have a79 := m_arr h 519 79 21 14
    show wX8_isUneven_b0 _ _ _ _ _ _
    unfold wX8_isUneven_b0
    refine ⟨m_is h, A 79, a79.1, a79.2.1, by rw [a79.2.2]; exact in_nI (by omega) (by decide), ?_⟩
    by_cases c : s = inp
    · rw [c, hB inp, hd0] at hk
      exact if_p (by rw [c]) hk
    · refine if_n (fun q => c ((nI_iff (by omega) (by omega)).mp q)) ?_
      have hd := hdr s hs
      cases hq : drv G nl s with
      | none =>
        rw [hq] at hd
        rw [hB s, hq] at hk
        have v79 : S.AI (A 79) (nI s).toNatClampNeg = -1 := rd_I h (al_s (by decide)) (by omega) hd
        rw [v79]
        exact if_p rfl hk
      | some k =>
        rw [hq] at hd
        obtain ⟨hkl, e⟩ := drv_some hq
        obtain ⟨hkk, hf, hs2, ht⟩ := hg k hkl
        have v79 : S.AI (A 79) (nI s).toNatClampNeg = nI k := rd_I h (al_s (by decide)) (by omega) hd
        rw [v79]
        have hB' := hB s
        rw [hq] at hB'
        refine if_n (nI_nm (by omega)) (p_isBehind hG hL.1 hi hM hdr 19 s S _ h hs (by have := hL.2 s; omega) ?_)
        rw [bh_19 hL]
        cases eb : bh G nl inp s with
        | false =>
          rw [unV_bh hG hL hB _ s (Nat.le_refl _) eb] at hk
          exact fi_p rfl hk
        | true =>
          rw [eb] at hB'
          dsimp only at hB'
          rw [Bool.true_and] at hB'
          have l1 := hL.1 k (G k 1) hkl (Or.inl rfl)
          rw [e] at l1
          obtain ⟨v81, v82, v83, -, -, -⟩ := lkM_read h hM hkl (by omega)
          have k16 : ∀ n, n = 16 → vp_in (nI k) n := fun n e => by
            rw [e]
            exact in_nI (by omega) (by decide)
          have a81 := m_arr h 521 81 20 16
          have a82 := m_arr h 522 82 21 16
          have a83 := m_arr h 523 83 21 16
          have a88 := m_arr h 528 88 23 16
          have v88 : S.AI (A 88) (nI k).toNatClampNeg = bI (brk k) := rd_I h (al_s (by decide)) (by omega) (hb k hkl)
          have b64 : ∀ w : Bool, w = (jrk G k && !brk k) → wX8_isUneven_b64 (wX8_isUneven (n + 1)) (A 70) (nI s) (nI inp) Φ S (nI k) (bI w) := fun w hw => by
            unfold wX8_isUneven_b64 wX8_isUneven_b109
            cases ew : w with
            | true =>
              rw [← hw, ew, Bool.or_true] at hB'
              rw [hB'] at hk
              exact fi_n (by decide) hk
            | false =>
              rw [← hw, ew, Bool.or_false] at hB'
              refine fi_p rfl ⟨m_is h, A 82, a82.1, a82.2.1, k16 _ a82.2.2, ?_⟩
              rw [v82]
              refine ih (G k 1) S _ h hf (by omega) ?_
              cases e1 : B (G k 1) with
              | true =>
                rw [e1, Bool.true_or] at hB'
                rw [hB'] at hk
                exact fi_n (by decide) hk
              | false =>
                rw [e1, Bool.false_or] at hB'
                refine fi_p rfl ⟨m_is h, A 83, a83.1, a83.2.1, k16 _ a83.2.2, ?_⟩
                rw [v83]
                by_cases hp : G k 0 = 112
                · have l2 := hL.1 k (G k 2) hkl (Or.inr ⟨hp, rfl⟩)
                  rw [e] at l2
                  have hsec : sec G k = nI (G k 2) := if_pos hp
                  have hs2' := hs2 hp
                  rw [hsec]
                  refine if_n (nI_nm (by omega)) ⟨A 83, a83.1, a83.2.1, k16 _ a83.2.2, ?_⟩
                  rw [v83, hsec]
                  rw [decide_eq_true hp, Bool.true_and] at hB'
                  refine ih (G k 2) S _ h hs2' (by omega) ?_
                  cases e2 : B (G k 2) with
                  | true =>
                    rw [hB', e2] at hk
                    exact if_n (by decide) hk
                  | false =>
                    rw [hB', e2] at hk
                    exact if_p rfl hk
                · have hsec : sec G k = -1 := if_neg hp
                  rw [hsec]
                  rw [decide_eq_false hp, Bool.false_and] at hB'
                  rw [hB'] at hk
                  exact if_p rfl hk
          have b50 : jrk G k = true → wX8_isUneven_b50 (wX8_isUneven (n + 1)) (A 70) (nI s) (nI inp) Φ S (nI k) := fun hj => by
            unfold wX8_isUneven_b50 wX8_isUneven_b63
            refine ⟨m_is h, A 88, a88.1, a88.2.1, k16 _ a88.2.2, ?_⟩
            rw [v88]
            cases ek : brk k with
            | true => exact fi_n (by decide) (b64 false (by rw [ek, Bool.not_true, Bool.and_false]))
            | false => exact fi_p rfl (b64 true (by rw [hj, ek]; rfl))
          have b63 : jrk G k = false → wX8_isUneven_b63 (wX8_isUneven (n + 1)) (A 70) (nI s) (nI inp) Φ S (nI k) := fun hj => by
            unfold wX8_isUneven_b63
            exact b64 false (by rw [hj]; rfl)
          have lt := (kOK_lt hkk).1
          refine fi_n (by decide) ⟨m_is h, A 81, a81.1, a81.2.1, k16 _ a81.2.2, ?_⟩
          rw [v81]
          by_cases c1 : G k 0 = 118
          · exact if_p (by rw [c1]; rfl) (b50 (by unfold jrk; rw [decide_eq_true c1]; rfl))
          · refine if_n (fun q => c1 ((nI_lit lt (by decide)).mp q)) ⟨A 81, a81.1, a81.2.1, k16 _ a81.2.2, ?_⟩
            rw [v81]
            by_cases c2 : G k 0 = 114
            · exact fi_p (by rw [c2]; rfl) (b50 (by unfold jrk; rw [decide_eq_true c2, Bool.or_true]))
            · exact fi_n (fun q => c2 ((nI_lit lt (by decide)).mp q)) (b63 (by unfold jrk; rw [decide_eq_false c1, decide_eq_false c2]; rfl))
end MU9
