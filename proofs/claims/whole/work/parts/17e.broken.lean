/-! THE CLASS: how many links are broken -/
section CN9
variable {A E : Nat → Nat} {ls : Nat → List Nat} {nl nc nd : Nat} {S : Hp} {D : Dt} {G : Nat → Nat → Nat}
theorem p_countBroken {Φ : Hp → Int32 → Prop} {brk : Nat → Bool} (h : Rep A E ls nl nc nd S D) (hC : LkC G nl D) (hls : ls 0 = (List.range nl).map (fun k => A (400 + k))) (h14 : nl ≤ 14) (hb : ∀ k, k < nl → D.FI 328 (400 + k) = bI (brk k)) (kk : Φ S (nI (cnt nl brk))) : wX7_countBroken S (A 0) Φ := by
  unfold wX7_countBroken wX7_countBroken_b0
  refine it3_ex (fun j S1 a v => S1 = S ∧ v = nI j ∧ a = nI (cnt j brk)) nl ?_ ?_ ⟨rfl, rfl, rfl⟩
  · rintro j hj S1 _ _ k9 ⟨rfl, rfl, rfl⟩ hk9
    have lk := lkS_of h hC hj (by omega)
    have vb : S1.FI 328 (A (400 + j)) = bI (brk j) := (rep_FI h 328 (by decide) (al_l hj)).trans (hb j hj)
    unfold wX7_countBroken_b4 wX7_countBroken_b35
    refine ⟨c_is h, A (1 + 0), rep_fr h (448, 0, 1) (by decide), ls_is h (by decide), p_size h (j := 0) (by decide) (if_n ?_ ⟨c_is h, A (1 + 0), rep_fr h (448, 0, 1) (by decide), ls_is h (by decide), p_get (x := A (400 + j)) h (j := 0) (by decide) (lnk_get hls hj) ⟨A (400 + j), rfl, lk.1, ?_⟩⟩)⟩
    · rw [lnk_len hls]
      exact nI_ge hj (by omega)
    rw [vb]
    cases e : brk j
    · refine if_p rfl ?_
      rw [← nI_succ]
      refine hk9 _ _ _ ⟨rfl, rfl, ?_⟩
      show _ = nI (cnt j brk + (if brk j = true then 1 else 0))
      rw [e, if_neg (by decide), Nat.add_zero]
    · refine if_n (by decide) ?_
      rw [← nI_succ, ← nI_succ]
      refine hk9 _ _ _ ⟨rfl, rfl, ?_⟩
      show _ = nI (cnt j brk + (if brk j = true then 1 else 0))
      rw [e, if_pos rfl]
  · rintro S1 _ _ k9 ⟨rfl, rfl, rfl⟩
    unfold wX7_countBroken_b4
    refine ⟨c_is h, A (1 + 0), rep_fr h (448, 0, 1) (by decide), ls_is h (by decide), p_size h (j := 0) (by decide) (if_p ?_ kk)⟩
    rw [lnk_len hls]
    exact nI_le (Nat.le_refl _) (by omega)
end CN9
