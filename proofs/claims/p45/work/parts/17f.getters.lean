/-! THE CLASS: repair, isBroken, driver, freedom, places, wear -/
section GC9
variable {A E : Nat → Nat} {ls : Nat → List Nat} {nl nc nd : Nat} {S : Hp} {D : Dt} {G : Nat → Nat → Nat}
theorem cnt_not (f : Nat → Bool) : ∀ n, cnt n f + cnt n (fun i => !f i) = n
  | 0 => rfl
  | n + 1 => by
    have := cnt_not f n
    show cnt n f + (if f n = true then 1 else 0) + (cnt n (fun i => !f i) + (if (!f n) = true then 1 else 0)) = n + 1
    cases f n <;> simp <;> omega
theorem nI_sub {a b : Nat} (_h : b ≤ a) : nI a - nI b = nI (a - b) := by
  obtain ⟨c, rfl⟩ := Nat.le.dest _h
  rw [Nat.add_sub_cancel_left, ← nI_add, Int32.add_comm, Int32.add_sub_cancel]
theorem p_isBrokenC {Φ : Hp → Int32 → Prop} {Ψ : Hp → String → Prop} {x : Int32} {brk : Nat → Bool} (h : Rep A E ls nl nc nd S D) (hC : LkC G nl D) (hls : ls 0 = (List.range nl).map (fun k => A (400 + k))) (h14 : nl ≤ 14) (hb : ∀ k, k < nl → D.FI 328 (400 + k) = bI (brk k)) (kt1 : ¬ inR x nl → Ψ S "java/lang/IndexOutOfBoundsException") (kk : ∀ s, s < nl → x = nI s → Φ S (bI (brk s))) : wX7_isBroken S (A 0) x Φ Ψ := by
  unfold wX7_isBroken wX7_isBroken_b0
  refine ⟨c_is h, p_linkAt h hC hls h14 (fun s hs e => ⟨A (400 + s), rfl, (lkS_of h hC hs (by omega)).1, ?_⟩) kt1⟩
  have vb : S.FI 328 (A (400 + s)) = bI (brk s) := (rep_FI h 328 (by decide) (al_l hs)).trans (hb s hs)
  rw [vb]
  exact ⟨narrow_bI _, kk s hs e⟩
theorem p_driverC {Φ : Hp → Int32 → Prop} {Ψ : Hp → String → Prop} {x : Int32} {ns : Nat} (h : Rep A E ls nl nc nd S D) (hG : GrOK ns nl G) (hns : D.FI 461 0 = nI ns) (hdr : DrA G nl 14 5 D) (kt1 : ¬ inR x ns → Ψ S "java/lang/IndexOutOfBoundsException") (kt2 : ∀ s, s < ns → x = nI s → drv G nl s = none → Ψ S "java/util/NoSuchElementException") (kk : ∀ s k, s < ns → x = nI s → drv G nl s = some k → Φ S (nI k)) : wX7_driver S (A 0) x Φ Ψ := by
  have h14 := hG.1
  unfold wX7_driver wX7_driver_b0
  refine ⟨c_is h, p_checkShaft h hns h14 (fun s hs e => ⟨c_is h, A 5, rep_fr h (452, 0, 5) (by decide), rep_is h (al_s (by decide)) (by decide), ?_⟩) kt1⟩
  subst e
  have n14 : S.N (A 5) = 14 := rep_N h (al_s (by decide)) (by decide)
  have i14 : vp_in (nI s) (S.N (A 5)) := by rw [n14]; exact in_nI (by omega) (by decide)
  have v : S.AI (A 5) (nI s).toNatClampNeg = match drv G nl s with | none => -1 | some k => nI k := rd_I h (al_s (by decide)) (by omega) (hdr s (by omega))
  refine ⟨i14, ?_⟩
  rw [v]
  cases e : drv G nl s with
  | none => exact fi_p rfl (kt2 s hs rfl e)
  | some k =>
    have hk := (drv_some e).1
    exact fi_n (nI_nm (by have := hG.2.1; omega)) ⟨A 5, rep_fr h (452, 0, 5) (by decide), rep_is h (al_s (by decide)) (by decide), i14, by rw [v, e]; exact kk s k hs rfl e⟩
theorem p_countDriven {Φ : Hp → Int32 → Prop} {ns : Nat} (h : Rep A E ls nl nc nd S D) (hG : GrOK ns nl G) (hns : D.FI 461 0 = nI ns) (hdr : DrA G nl 14 5 D) (kk : Φ S (nI (cnt ns (fun s => (drv G nl s).isSome)))) : wX7_countDriven S (A 0) Φ := by
  have h14 := hG.1
  have v : S.FI 461 (A 0) = nI ns := (rep_FI h 461 (by decide) c_al).trans hns
  have n14 : S.N (A 5) = 14 := rep_N h (al_s (by decide)) (by decide)
  unfold wX7_countDriven wX7_countDriven_b0
  refine it3_ex (fun j S1 a w => S1 = S ∧ w = nI j ∧ a = nI (cnt j (fun s => (drv G nl s).isSome))) ns ?_ ?_ ⟨rfl, rfl, rfl⟩
  · rintro j hj S1 _ _ k9 ⟨rfl, rfl, rfl⟩ hk9
    unfold wX7_countDriven_b4 wX7_countDriven_b25
    rw [v]
    refine ⟨c_is h, if_n (nI_ge hj (by omega)) ⟨A 5, rep_fr h (452, 0, 5) (by decide), rep_is h (al_s (by decide)) (by decide), by rw [n14]; exact in_nI (by omega) (by decide), ?_⟩⟩
    have w : S1.AI (A 5) (nI j).toNatClampNeg = match drv G nl j with | none => -1 | some k => nI k := rd_I h (al_s (by decide)) (by omega) (hdr j (by omega))
    rw [w]
    cases e : drv G nl j with
    | none =>
      refine if_p rfl ?_
      rw [← nI_succ]
      refine hk9 _ _ _ ⟨rfl, rfl, ?_⟩
      show nI (cnt j _) = nI (cnt j _ + (if (drv G nl j).isSome = true then 1 else 0))
      rw [e]
      rfl
    | some k =>
      have hk := (drv_some e).1
      refine if_n (nI_nm (by have := hG.2.1; omega)) ?_
      rw [← nI_succ, ← nI_succ]
      refine hk9 _ _ _ ⟨rfl, rfl, ?_⟩
      show nI (cnt j _ + 1) = nI (cnt j _ + (if (drv G nl j).isSome = true then 1 else 0))
      rw [e]
      rfl
  · rintro S1 _ _ k9 ⟨rfl, rfl, rfl⟩
    unfold wX7_countDriven_b4
    rw [v]
    exact ⟨c_is h, if_p (nI_le (Nat.le_refl _) (by omega)) kk⟩
theorem p_freedomC {Φ : Hp → Int32 → Prop} {ns : Nat} (h : Rep A E ls nl nc nd S D) (hG : GrOK ns nl G) (hns : D.FI 461 0 = nI ns) (hdr : DrA G nl 14 5 D) (kk : Φ S (nI (cnt ns (fun s => !(drv G nl s).isSome)))) : wX7_freedom S (A 0) Φ := by
  have v : S.FI 461 (A 0) = nI ns := (rep_FI h 461 (by decide) c_al).trans hns
  unfold wX7_freedom wX7_freedom_b0
  rw [v]
  refine ⟨c_is h, p_countDriven h hG hns hdr ?_⟩
  have e := cnt_not (fun s => (drv G nl s).isSome) ns
  rw [nI_sub (cnt_le _ _)]
  rw [show ns - cnt ns (fun s => (drv G nl s).isSome) = cnt ns (fun s => !(drv G nl s).isSome) by omega]
  exact kk
theorem p_placeOverC {Φ : Hp → Int64 → Prop} {Ψ : Hp → String → Prop} {x : Int32} {ns : Nat} (h : Rep A E ls nl nc nd S D) (h14 : ns ≤ 14) (hns : D.FI 461 0 = nI ns) (kt1 : ¬ inR x ns → Ψ S "java/lang/IndexOutOfBoundsException") (kk : ∀ s, s < ns → x = nI s → Φ S (D.AJ 34 s)) : wX7_placeOver S (A 0) x Φ Ψ := by
  unfold wX7_placeOver wX7_placeOver_b0
  refine ⟨c_is h, p_checkShaft h hns h14 (fun s hs e => ⟨c_is h, A 20, rep_fr h (458, 0, 20) (by decide), (mot_ h (m := 0) (by decide)).1, A 11, (mot_ h (m := 0) (by decide)).2.1, (row_ h (p := 2) (by decide)).1, ?_⟩) kt1⟩
  subst e
  exact p_overAt (p := 2) h (by decide) (by show s < 14; omega) (kk s hs rfl)
theorem p_placeUnderC {Φ : Hp → Int64 → Prop} {Ψ : Hp → String → Prop} {x : Int32} {ns : Nat} (h : Rep A E ls nl nc nd S D) (h14 : ns ≤ 14) (hns : D.FI 461 0 = nI ns) (kt1 : ¬ inR x ns → Ψ S "java/lang/IndexOutOfBoundsException") (kk : ∀ s, s < ns → x = nI s → Φ S (D.AJ 35 s)) : wX7_placeUnder S (A 0) x Φ Ψ := by
  unfold wX7_placeUnder wX7_placeUnder_b0
  refine ⟨c_is h, p_checkShaft h hns h14 (fun s hs e => ⟨c_is h, A 20, rep_fr h (458, 0, 20) (by decide), (mot_ h (m := 0) (by decide)).1, A 11, (mot_ h (m := 0) (by decide)).2.1, (row_ h (p := 2) (by decide)).1, ?_⟩) kt1⟩
  subst e
  exact p_underAt (p := 2) h (by decide) (by show s < 14; omega) (kk s hs rfl)
theorem p_wornOverC {Φ : Hp → Int64 → Prop} {Ψ : Hp → String → Prop} {x : Int32} (h : Rep A E ls nl nc nd S D) (hls : ls 0 = (List.range nl).map (fun k => A (400 + k))) (h14 : nl ≤ 14) (kt1 : ¬ inR x nl → Ψ S "java/lang/IndexOutOfBoundsException") (kk : ∀ s, s < nl → x = nI s → Φ S (D.AJ 32 s)) : wX7_wornOver S (A 0) x Φ Ψ := by
  unfold wX7_wornOver wX7_wornOver_b0
  refine ⟨c_is h, p_checkLink h hls h14 (fun s hs e => ⟨c_is h, A 10, rep_fr h (457, 0, 10) (by decide), (row_ h (p := 1) (by decide)).1, ?_⟩) kt1⟩
  subst e
  exact p_overAt (p := 1) h (by decide) (by show s < 16; omega) (kk s hs rfl)
theorem p_wornUnderC {Φ : Hp → Int64 → Prop} {Ψ : Hp → String → Prop} {x : Int32} (h : Rep A E ls nl nc nd S D) (hls : ls 0 = (List.range nl).map (fun k => A (400 + k))) (h14 : nl ≤ 14) (kt1 : ¬ inR x nl → Ψ S "java/lang/IndexOutOfBoundsException") (kk : ∀ s, s < nl → x = nI s → Φ S (D.AJ 33 s)) : wX7_wornUnder S (A 0) x Φ Ψ := by
  unfold wX7_wornUnder wX7_wornUnder_b0
  refine ⟨c_is h, p_checkLink h hls h14 (fun s hs e => ⟨c_is h, A 10, rep_fr h (457, 0, 10) (by decide), (row_ h (p := 1) (by decide)).1, ?_⟩) kt1⟩
  subst e
  exact p_underAt (p := 1) h (by decide) (by show s < 16; omega) (kk s hs rfl)
end GC9
