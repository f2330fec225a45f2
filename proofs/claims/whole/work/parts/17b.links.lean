/-! THE CLASS: engage, life, slack -/
section EL9
variable {A E : Nat → Nat} {ls : Nat → List Nat} {nl nc nd : Nat} {S : Hp} {D : Dt} {G : Nat → Nat → Nat}
theorem p_checkLink {Φ : Hp → Prop} {Ψ : Hp → String → Prop} {x : Int32} (h : Rep A E ls nl nc nd S D) (hls : ls 0 = (List.range nl).map (fun k => A (400 + k))) (h14 : nl ≤ 14) (k : ∀ s, s < nl → x = nI s → Φ S) (kt : ¬ inR x nl → Ψ S "java/lang/IndexOutOfBoundsException") : wX7_checkLink S (A 0) x Φ Ψ := by
  unfold wX7_checkLink wX7_checkLink_b0 wX7_checkLink_b15
  by_cases c : x < 0
  · exact if_p c (kt (fun q => by have := lt0_iff.mp c; have := q.1; omega))
  · refine if_n c ⟨c_is h, A (1 + 0), rep_fr h (448, 0, 1) (by decide), ls_is h (by decide), p_size h (j := 0) (by decide) ?_⟩
    rw [lnk_len hls]
    by_cases c2 : x < nI nl
    · obtain ⟨s, hs, e⟩ := inR_ex (x := x) (n := nl) ⟨Int.not_lt.mp (fun q => c (lt0_iff.mpr q)), (ltn_iff (by omega)).mp c2⟩ (by omega)
      exact if_p c2 (k s hs e)
    · exact if_n c2 (kt (fun q => c2 ((ltn_iff (by omega)).mpr q.2)))
theorem p_linkAt {Φ : Hp → Option Nat → Prop} {Ψ : Hp → String → Prop} {x : Int32} (h : Rep A E ls nl nc nd S D) (hC : LkC G nl D) (hls : ls 0 = (List.range nl).map (fun k => A (400 + k))) (h14 : nl ≤ 14) (k : ∀ s, s < nl → x = nI s → Φ S (some (A (400 + s)))) (kt : ¬ inR x nl → Ψ S "java/lang/IndexOutOfBoundsException") : wX7_linkAt S (A 0) x Φ Ψ := by
  unfold wX7_linkAt wX7_linkAt_b0
  refine ⟨c_is h, p_checkLink h hls h14 (fun s hs e => ?_) kt⟩
  subst e
  exact ⟨c_is h, A (1 + 0), rep_fr h (448, 0, 1) (by decide), ls_is h (by decide), p_get (x := A (400 + s)) h (j := 0) (by decide) (lnk_get hls hs) ⟨A (400 + s), rfl, (lkS_of h hC hs (by omega)).1, k s hs rfl⟩⟩
theorem p_lifeC {Φ : Hp → Int32 → Prop} {Ψ : Hp → String → Prop} {x y : Int32} (h : Rep A E ls nl nc nd S D) (hC : LkC G nl D) (hls : ls 0 = (List.range nl).map (fun k => A (400 + k))) (h14 : nl ≤ 14) (kt1 : ¬ inR x nl → Ψ S "java/lang/IndexOutOfBoundsException") (kt2 : inR x nl → ¬ (0 ≤ y.toInt ∧ y.toInt ≤ 999) → Ψ S "java/lang/IllegalArgumentException")
    (kk : ∀ s, s < nl → x = nI s → (0 ≤ y.toInt ∧ y.toInt ≤ 999) → ∀ S' D', Rep A E ls nl nc nd S' D' → SamG (fun i r => i = 329 ∧ r = 400 + s) (fun _ => False) (fun _ => False) D D' → D'.FI 329 (400 + s) = y → Φ S' (D.FI 329 (400 + s))) : wX7_life S (A 0) x y Φ Ψ := by
  unfold wX7_life wX7_life_b0
  refine ⟨c_is h, p_linkAt h hC hls h14 (fun s hs e => ⟨A (400 + s), rfl, p_checkRange (fun a b => ⟨(lkS_of h hC hs (by omega)).1, fun S7 e7 => ?_⟩) (fun q => kt2 (by rw [e]; exact inR_nI hs (by omega)) q)⟩) kt1⟩
  obtain ⟨D7, r7, u7, j7, o7, f7⟩ := t_setFI (r := 400 + s) (i := 329) h (al_l hs) (by decide) e7
  rw [rep_FI h 329 (by decide) (al_l hs)]
  exact kk s hs e ⟨a, b⟩ S7 D7 r7 ⟨fun i r hr => o7 i r hr, fun r _ => by rw [u7], fun r _ => by rw [j7]⟩ f7
theorem p_slackC {Φ : Hp → Int32 → Prop} {Ψ : Hp → String → Prop} {x y : Int32} (h : Rep A E ls nl nc nd S D) (hC : LkC G nl D) (hls : ls 0 = (List.range nl).map (fun k => A (400 + k))) (h14 : nl ≤ 14) (kt1 : ¬ inR x nl → Ψ S "java/lang/IndexOutOfBoundsException") (kt2 : inR x nl → ¬ (0 ≤ y.toInt ∧ y.toInt ≤ 99) → Ψ S "java/lang/IllegalArgumentException")
    (kk : ∀ s, s < nl → x = nI s → (0 ≤ y.toInt ∧ y.toInt ≤ 99) → ∀ S' D', Rep A E ls nl nc nd S' D' → SamG (fun i r => i = 330 ∧ r = 400 + s) (fun _ => False) (fun _ => False) D D' → D'.FI 330 (400 + s) = y → Φ S' (D.FI 330 (400 + s))) : wX7_slack S (A 0) x y Φ Ψ := by
  unfold wX7_slack wX7_slack_b0
  refine ⟨c_is h, p_linkAt h hC hls h14 (fun s hs e => ⟨A (400 + s), rfl, p_checkRange (fun a b => ⟨(lkS_of h hC hs (by omega)).1, fun S7 e7 => ?_⟩) (fun q => kt2 (by rw [e]; exact inR_nI hs (by omega)) q)⟩) kt1⟩
  obtain ⟨D7, r7, u7, j7, o7, f7⟩ := t_setFI (r := 400 + s) (i := 330) h (al_l hs) (by decide) e7
  rw [rep_FI h 330 (by decide) (al_l hs)]
  exact kk s hs e ⟨a, b⟩ S7 D7 r7 ⟨fun i r hr => o7 i r hr, fun r _ => by rw [u7], fun r _ => by rw [j7]⟩ f7
theorem p_engageC {Φ : Hp → Int32 → Prop} {Ψ : Hp → String → Prop} {x : Int32} {v : Bool} {eng brk : Nat → Bool} (h : Rep A E ls nl nc nd S D) (hC : LkC G nl D) (hg : ∀ k, k < nl → G k 0 < 200) (hls : ls 0 = (List.range nl).map (fun k => A (400 + k))) (h14 : nl ≤ 14) (he : ∀ k, k < nl → D.FI 327 (400 + k) = bI (eng k)) (hb : ∀ k, k < nl → D.FI 328 (400 + k) = bI (brk k)) (kt1 : ¬ inR x nl → Ψ S "java/lang/IndexOutOfBoundsException") (kt2 : ∀ s, s < nl → x = nI s → G s 0 ≠ 107 → Ψ S "java/lang/UnsupportedOperationException")
    (kk : ∀ s, s < nl → x = nI s → G s 0 = 107 → ∀ S' D', Rep A E ls nl nc nd S' D' → SamG (fun i r => i = 327 ∧ r = 400 + s) (fun r => r = 63) (fun _ => False) D D' → D'.FI 327 (400 + s) = bI v → (∀ k, D'.AI 63 k = if k = s then bI (v && !brk s) else D.AI 63 k) → Φ S' (bI (eng s))) : wX7_engage S (A 0) x (bI v) Φ Ψ := by
  unfold wX7_engage wX7_engage_b0
  refine ⟨c_is h, p_linkAt h hC hls h14 (fun s hs e => ⟨A (400 + s), rfl, (lkS_of h hC hs (by omega)).1, ?_⟩) kt1⟩
  have lk := lkS_of h hC hs (by omega)
  rw [lk.2.2.1]
  by_cases c : G s 0 = 107
  · refine if_p (by rw [c]; rfl) ⟨nb_bI v, fun S8 e8 => ?_⟩
    obtain ⟨D8, r8, u8, j8, o8, f8⟩ := t_setFI (r := 400 + s) (i := 327) h (al_l hs) (by decide) e8
    have hC8 := lkC_cg hC (D' := D8) (fun i r q1 q2 => o8 i r (fun q => by omega))
    have lk8 := lkS_of r8 hC8 hs (by omega)
    have ve : S8.FI 327 (A (400 + s)) = bI v := (rep_FI r8 327 (by decide) (al_l hs)).trans f8
    have vb : S8.FI 328 (A (400 + s)) = bI (brk s) := (rep_FI r8 328 (by decide) (al_l hs)).trans ((o8 328 _ (fun q => by omega)).trans (hb s hs))
    have v0 : S.FI 327 (A (400 + s)) = bI (eng s) := (rep_FI h 327 (by decide) (al_l hs)).trans (he s hs)
    refine ⟨c_is r8, A 20, rep_fr r8 (458, 0, 20) (by decide), p_doesActL lk8.1 ve vb ⟨(mot_ r8 (m := 0) (by decide)).1, p_setActs r8 (m := 0) (by decide) lk8 (by omega) (nb_bI _) (fun S9 r9 => ?_)⟩⟩
    rw [v0]
    refine ⟨narrow_bI _, kk s hs e c S9 _ r9 ⟨fun i r hr => o8 i r hr, fun r hr => ?_, fun r _ => by show D8.AJ r = _; rw [j8]⟩ f8 (fun k => ?_)⟩
    · funext i
      rw [dtAI_n (fun q => hr q.1), u8]
    · show (D8.setAI 63 s _).AI 63 k = _
      by_cases ck : k = s
      · rw [if_pos ck, ck, dtAI_s]
      · rw [if_neg ck, dtAI_n (fun q => ck q.2), u8]
  · have := hg s hs
    exact if_n (fun q => c ((nI_iff (b := 107) (by omega) (by decide)).mp q)) (kt2 s hs e c)
end EL9
