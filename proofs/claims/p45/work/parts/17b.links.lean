/-! THE CLASS: engage, life, slack -/
section EL9
variable {A E : Nat → Nat} {ls : Nat → List Nat} {nl nc nd : Nat} {S : Hp} {D : Dt} {G : Nat → Nat → Nat}
theorem p_checkLink {Φ : Hp → Prop} {Ψ : Hp → String → Prop} {x : Int32} (h : Rep A E ls nl nc nd S D) (hls : ls 0 = (List.range nl).map (fun k => A (400 + k))) (h14 : nl ≤ 14) (k : ∀ s, s < nl → x = nI s → Φ S) (kt : ¬ inR x nl → Ψ S "java/lang/IndexOutOfBoundsException") : wX7_checkLink S (A 0) x Φ Ψ := by
  unfold wX7_checkLink wX7_checkLink_b0 wX7_checkLink_b15
  by_cases c : x < 0
  · exact if_p c (kt (fun q => by have := lt0_iff.mp c; have := q.1; omega))
  · refine if_n c ⟨c_is h, A (1 + 0), rep_fr h (448, 0, 1) (by decide), ls_is h (by decide), p_size h (j := 0) (by decide) ?_⟩
    rw [lnk_len hls]
    by_cases c2 : x < nI nl
    · obtain ⟨s, hs, e⟩ := inR_ex (x := x) (n := nl) ⟨Int.not_lt.mp (fun q => c (lt0_iff.mpr q)), (ltn_iff (by omega)).mp c2⟩ (by omega)
      exact if_p c2 (k s hs e)
    · exact if_n c2 (kt (fun q => c2 ((ltn_iff (by omega)).mpr q.2)))
theorem p_linkAt {Φ : Hp → Option Nat → Prop} {Ψ : Hp → String → Prop} {x : Int32} (h : Rep A E ls nl nc nd S D) (hC : LkC G nl D) (hls : ls 0 = (List.range nl).map (fun k => A (400 + k))) (h14 : nl ≤ 14) (k : ∀ s, s < nl → x = nI s → Φ S (some (A (400 + s)))) (kt : ¬ inR x nl → Ψ S "java/lang/IndexOutOfBoundsException") : wX7_linkAt S (A 0) x Φ Ψ := by
  unfold wX7_linkAt wX7_linkAt_b0
  refine ⟨c_is h, p_checkLink h hls h14 (fun s hs e => ?_) kt⟩
  subst e
  exact ⟨c_is h, A (1 + 0), rep_fr h (448, 0, 1) (by decide), ls_is h (by decide), p_get (x := A (400 + s)) h (j := 0) (by decide) (lnk_get hls hs) ⟨A (400 + s), rfl, (lkS_of h hC hs (by omega)).1, k s hs rfl⟩⟩
end EL9
