/-! THE REFERENCE: is a link added -/
def fitb (G : Nat → Nat → Nat) (nl : Nat) : Nat → Bool
  | 0 => true
  | j + 1 => fitb G nl j && decide (dpF G nl 19 j ≤ 3)
theorem fitb_t {G : Nat → Nat → Nat} {nl : Nat} : ∀ j, fitb G nl j = true ↔ ∀ s, s < j → dpF G nl 19 s ≤ 3
  | 0 => ⟨fun _ s hs => absurd hs (Nat.not_lt_zero s), fun _ => rfl⟩
  | j + 1 => by
    show (fitb G nl j && decide (dpF G nl 19 j ≤ 3)) = true ↔ _
    rw [Bool.and_eq_true, fitb_t j, decide_eq_true_eq]
    constructor
    · intro h s hs
      by_cases c : s = j
      · rw [c]
        exact h.2
      · exact h.1 s (by omega)
    · exact fun h => ⟨fun s hs => h s (by omega), h j (by omega)⟩
theorem dpF_le {G : Nat → Nat → Nat} {nl n s : Nat} : ∀ d, dpF G nl n s ≤ dpF G nl (n + d) s
  | 0 => Nat.le_refl _
  | d + 1 => Nat.le_trans (dpF_le d) (dpF_mono (n + d) s)
theorem fit_19 {ns nl : Nat} {G : Nat → Nat → Nat} (hG : GrOK ns nl G) : (∀ s, s < ns → dpF G nl 19 s ≤ 3) ↔ (∀ s, s < ns → dpF G nl 4 s ≤ 3) := by
  constructor
  · exact fun h s hs => Nat.le_trans (dpF_le (n := 4) 15) (h s hs)
  · exact fun h s hs => (fit_lev (lev_fit hG h) 19 s (by omega)).2
def sameG (g : Nat → Nat) : Prop := g 1 = g 3 ∨ (g 0 = 112 ∧ g 2 = g 3) ∨ (g 0 = 112 ∧ g 2 = g 1)
/-- one entry is set; the state after it is kept opaque -/
theorem t_setAI {A E : Nat → Nat} {ls : Nat → List Nat} {nl nc nd : Nat} {S S' : Hp} {D : Dt} {r i : Nat} {v : Int32} (h : Rep A E ls nl nc nd S D) (ha : al nl nc nd r) (e : S' = S.setAI (A r) i v) : ∃ D', Rep A E ls nl nc nd S' D' ∧ D'.FI = D.FI ∧ D'.AJ = D.AJ ∧ (∀ r', r' ≠ r → D'.AI r' = D.AI r') ∧ ∀ k, D'.AI r k = if k = i then v else D.AI r k := by
  refine ⟨D.setAI r i v, by rw [e]; exact set_AI h i v ha, rfl, rfl, fun r' hr => funext fun k => dtAI_n (fun q => hr q.1), fun k => ?_⟩
  by_cases c : k = i
  · rw [if_pos c, c, dtAI_s]
  · rw [if_neg c, dtAI_n (fun q => c q.2)]
theorem t_setFI {A E : Nat → Nat} {ls : Nat → List Nat} {nl nc nd : Nat} {S S' : Hp} {D : Dt} {r i : Nat} {v : Int32} (h : Rep A E ls nl nc nd S D) (ha : al nl nc nd r) (hi : i < 576) (e : S' = S.setFI i (A r) v) : ∃ D', Rep A E ls nl nc nd S' D' ∧ D'.AI = D.AI ∧ D'.AJ = D.AJ ∧ (∀ i' r', ¬ (i' = i ∧ r' = r) → D'.FI i' r' = D.FI i' r') ∧ D'.FI i r = v := by
  exact ⟨D.setFI i r v, by rw [e]; exact set_FI h v ha hi, rfl, rfl, fun i' r' hr => dtFI_n hr, dtFI_s⟩
section MD9
variable {A E : Nat → Nat} {ls : Nat → List Nat} {nl nc nd : Nat} {S : Hp} {D : Dt} {G : Nat → Nat → Nat} {g : Nat → Nat}
theorem p_isAdded {Φ : Hp → Int32 → Prop} {ns nlr : Nat} {lv : Nat → Nat} (h : Rep A E ls nlr nc nd S D) (hG : GrOK ns nl G) (hL : Lev nl G lv) (hM : LkM G nl D) (hnl : D.FI 544 70 = nI nl) (hns : D.FI 543 70 = nI ns) (hdr : DrA G nl ns 79 D) (hk : kOK (gx G nl g) nl) (h1 : g 1 < ns) (h2 : g 0 = 112 → g 2 < ns) (h3 : g 3 < ns)
    (k0 : ∀ S' D', Rep A E ls nlr nc nd S' D' → SamG (fun i r => i = 544 ∧ r = 70) (fun r => r = 79 ∨ (81 ≤ r ∧ r < 87)) (fun _ => False) D D' → (sameG g ∨ drv G nl (g 3) ≠ none ∨ ¬ ∀ s, s < ns → dpF (gx G nl g) (nl + 1) 4 s ≤ 3) → D'.FI 544 70 = nI nl → LkM G nl D' → DrA G nl ns 79 D' → Φ S' 0)
    (k1 : ∀ S' D', Rep A E ls nlr nc nd S' D' → SamG (fun i r => i = 544 ∧ r = 70) (fun r => r = 79 ∨ (81 ≤ r ∧ r < 87)) (fun _ => False) D D' → ¬ sameG g → drv G nl (g 3) = none → (∀ s, s < ns → dpF (gx G nl g) (nl + 1) 4 s ≤ 3) → D'.FI 544 70 = nI (nl + 1) → LkM (gx G nl g) (nl + 1) D' → DrA (gx G nl g) (nl + 1) ns 79 D' → Φ S' 1) :
    wX8_isAdded S (A 70) (nI (g 0)) (nI (g 1)) (sec (gx G nl g) nl) (nI (g 3)) (nI (g 4)) (nI (g 5)) Φ := by
  have h14 := hG.1
  have hnl14 := hG.2.1
  have hse : sec (gx G nl g) nl = if g 0 = 112 then nI (g 2) else -1 := by
    unfold sec
    rw [gx_s]
  have b17 : sameG g → wX8_isAdded_b17 (A 70) (nI (g 0)) (nI (g 1)) (sec (gx G nl g) nl) (nI (g 3)) (nI (g 4)) (nI (g 5)) Φ S := fun hs => by
    unfold wX8_isAdded_b17 wX8_isAdded_b22
    exact fi_n (by decide) (k0 S D h SamG.rf (Or.inl hs) hnl hM hdr)
  have vnl : S.FI 544 (A 70) = nI nl := by
    rw [rep_FI h 544 (by decide) m_al]
    exact hnl
  have a79 := m_arr h 519 79 21 14
  have v79 : S.AI (A 79) (nI (g 3)).toNatClampNeg = match drv G nl (g 3) with | none => -1 | some k => nI k := rd_I h (al_s (by decide)) (by omega) (hdr _ h3)
  -- the link is put, and taken back if a shaft is too deep
  have b67 : ¬ sameG g → drv G nl (g 3) = none → bh G nl (g 3) (g 1) = false → (g 0 = 112 → bh G nl (g 3) (g 2) = false) → wX8_isAdded_b67 (A 70) (nI (g 0)) (nI (g 1)) (sec (gx G nl g) nl) (nI (g 3)) (nI (g 4)) (nI (g 5)) Φ S := fun hns2 ed w1 w2 => by
    have hG' := gr_ext hG hk h1 h2 h3 ed
    obtain ⟨rk1, rk2⟩ := rk_ext hG hL w1 w2
    have k16 : ∀ n, n = 16 → vp_in (nI nl) n := fun n e => by
      rw [e]
      exact in_nI (by omega) (by decide)
    have cnl : (nI nl).toNatClampNeg = nl := cl_nI (by omega)
    unfold wX8_isAdded_b67
    rw [vnl]
    refine ⟨m_is h, fi_n (fun q => absurd ((nI_iff (b := 16) (by omega) (by decide)).mp q) (by omega)) ?_⟩
    have a81 := m_arr h 521 81 20 16
    refine ⟨A 81, a81.1, a81.2.1, k16 _ a81.2.2, nc_kind (by have := kOK_kind hk; rw [gx_s] at this; exact this), fun S7 e7 => ?_⟩
    rw [cnl] at e7
    obtain ⟨D7, r7, u7, j7, o7, i7⟩ := t_setAI (r := 81) h (al_s (by decide)) e7
    have g7 : D7.FI 544 70 = nI nl := by rw [u7]; exact hnl
    have n7 : S7.FI 544 (A 70) = nI nl := (rep_FI r7 544 (by decide) m_al).trans g7
    have a82 := m_arr r7 522 82 21 16
    rw [n7]
    refine ⟨A 82, a82.1, a82.2.1, k16 _ a82.2.2, fun S11 e11 => ?_⟩
    rw [cnl] at e11
    obtain ⟨D11, r11, u11, j11, o11, i11⟩ := t_setAI (r := 82) r7 (al_s (by decide)) e11
    have g11 : D11.FI 544 70 = nI nl := by rw [u11]; exact g7
    have n11 : S11.FI 544 (A 70) = nI nl := (rep_FI r11 544 (by decide) m_al).trans g11
    have a83 := m_arr r11 523 83 21 16
    rw [n11]
    refine ⟨A 83, a83.1, a83.2.1, k16 _ a83.2.2, fun S15 e15 => ?_⟩
    rw [cnl] at e15
    obtain ⟨D15, r15, u15, j15, o15, i15⟩ := t_setAI (r := 83) r11 (al_s (by decide)) e15
    have g15 : D15.FI 544 70 = nI nl := by rw [u15]; exact g11
    have n15 : S15.FI 544 (A 70) = nI nl := (rep_FI r15 544 (by decide) m_al).trans g15
    have a84 := m_arr r15 524 84 21 16
    rw [n15]
    refine ⟨A 84, a84.1, a84.2.1, k16 _ a84.2.2, fun S19 e19 => ?_⟩
    rw [cnl] at e19
    obtain ⟨D19, r19, u19, j19, o19, i19⟩ := t_setAI (r := 84) r15 (al_s (by decide)) e19
    have g19 : D19.FI 544 70 = nI nl := by rw [u19]; exact g15
    have n19 : S19.FI 544 (A 70) = nI nl := (rep_FI r19 544 (by decide) m_al).trans g19
    have a85 := m_arr r19 525 85 21 16
    rw [n19]
    refine ⟨A 85, a85.1, a85.2.1, k16 _ a85.2.2, fun S23 e23 => ?_⟩
    rw [cnl] at e23
    obtain ⟨D23, r23, u23, j23, o23, i23⟩ := t_setAI (r := 85) r19 (al_s (by decide)) e23
    have g23 : D23.FI 544 70 = nI nl := by rw [u23]; exact g19
    have n23 : S23.FI 544 (A 70) = nI nl := (rep_FI r23 544 (by decide) m_al).trans g23
    have a86 := m_arr r23 526 86 21 16
    rw [n23]
    refine ⟨A 86, a86.1, a86.2.1, k16 _ a86.2.2, fun S27 e27 => ?_⟩
    rw [cnl] at e27
    obtain ⟨D27, r27, u27, j27, o27, i27⟩ := t_setAI (r := 86) r23 (al_s (by decide)) e27
    have g27 : D27.FI 544 70 = nI nl := by rw [u27]; exact g23
    have n27 : S27.FI 544 (A 70) = nI nl := (rep_FI r27 544 (by decide) m_al).trans g27
    have c79 := m_arr r27 519 79 21 14
    refine ⟨A 79, c79.1, c79.2.1, by rw [c79.2.2]; exact in_nI (by omega) (by decide), fun S31 e31 => ?_⟩
    rw [n27, cl_nI (by omega)] at e31
    obtain ⟨D31, r31, u31, j31, o31, i31⟩ := t_setAI (r := 79) r27 (al_s (by decide)) e31
    have g31 : D31.FI 544 70 = nI nl := by rw [u31]; exact g27
    have n31 : S31.FI 544 (A 70) = nI nl := (rep_FI r31 544 (by decide) m_al).trans g31
    intro S32 e32
    rw [n31, ← nI_succ] at e32
    obtain ⟨D9, r32, u32, j32, o32, f544⟩ := t_setFI (r := 70) (i := 544) r31 m_al (by decide) e32
    have sM : SamG (fun i r => i = 544 ∧ r = 70) (fun r => r = 79 ∨ (81 ≤ r ∧ r < 87)) (fun _ => False) D D9 := by
      refine ⟨fun i r hr => ?_, fun r hr => ?_, fun r _ => ?_⟩
      · rw [o32 i r hr, u31, u27, u23, u19, u15, u11, u7]
      · rw [u32, o31 r (by omega), o27 r (by omega), o23 r (by omega), o19 r (by omega), o15 r (by omega), o11 r (by omega), o7 r (by omega)]
      · rw [j32, j31, j27, j23, j19, j15, j11, j7]
    have f81 : ∀ k, D9.AI 81 k = if k = nl then nI (g 0) else D.AI 81 k := fun k => by
      rw [u32, o31 81 (by decide), o27 81 (by decide), o23 81 (by decide), o19 81 (by decide), o15 81 (by decide), o11 81 (by decide)]
      exact i7 k
    have f82 : ∀ k, D9.AI 82 k = if k = nl then nI (g 1) else D.AI 82 k := fun k => by
      rw [u32, o31 82 (by decide), o27 82 (by decide), o23 82 (by decide), o19 82 (by decide), o15 82 (by decide), i11 k, o7 82 (by decide)]
    have f83 : ∀ k, D9.AI 83 k = if k = nl then sec (gx G nl g) nl else D.AI 83 k := fun k => by
      rw [u32, o31 83 (by decide), o27 83 (by decide), o23 83 (by decide), o19 83 (by decide), i15 k, o11 83 (by decide), o7 83 (by decide)]
    have f84 : ∀ k, D9.AI 84 k = if k = nl then nI (g 3) else D.AI 84 k := fun k => by
      rw [u32, o31 84 (by decide), o27 84 (by decide), o23 84 (by decide), i19 k, o15 84 (by decide), o11 84 (by decide), o7 84 (by decide)]
    have f85 : ∀ k, D9.AI 85 k = if k = nl then nI (g 4) else D.AI 85 k := fun k => by
      rw [u32, o31 85 (by decide), o27 85 (by decide), i23 k, o19 85 (by decide), o15 85 (by decide), o11 85 (by decide), o7 85 (by decide)]
    have f86 : ∀ k, D9.AI 86 k = if k = nl then nI (g 5) else D.AI 86 k := fun k => by
      rw [u32, o31 86 (by decide), i27 k, o23 86 (by decide), o19 86 (by decide), o15 86 (by decide), o11 86 (by decide), o7 86 (by decide)]
    have f79 : ∀ s, D9.AI 79 s = if s = g 3 then nI nl else D.AI 79 s := fun s => by
      rw [u32, i31 s, o27 79 (by decide), o23 79 (by decide), o19 79 (by decide), o15 79 (by decide), o11 79 (by decide), o7 79 (by decide)]
    clear i7 i11 i15 i19 i23 i27 i31 o7 o11 o15 o19 o23 o27 o31 o32 u7 u11 u15 u19 u23 u27 u31 u32 j7 j11 j15 j19 j23 j27 j31 j32
    have m9 : LkM (gx G nl g) (nl + 1) D9 := fun k hk' => by
      rw [f81, f82, f83, f84, f85, f86]
      by_cases c : k = nl
      · rw [if_pos c, if_pos c, if_pos c, if_pos c, if_pos c, if_pos c, c, gx_s]
        exact ⟨rfl, rfl, rfl, rfl, rfl, rfl⟩
      · have hk2 : k < nl := by omega
        have := hM k hk2
        unfold sec at this ⊢
        rw [if_neg c, if_neg c, if_neg c, if_neg c, if_neg c, if_neg c, gx_n hk2]
        exact this
    have m9' : LkM G nl D9 := fun k hk' => by
      have c : k ≠ nl := by omega
      rw [f81, f82, f83, f84, f85, f86, if_neg c, if_neg c, if_neg c, if_neg c, if_neg c, if_neg c]
      exact hM k hk'
    have d9 : DrA (gx G nl g) (nl + 1) ns 79 D9 := fun s hs => by
      rw [f79, drv_ext hG ed]
      by_cases c : s = g 3
      · rw [if_pos c, if_pos c]
      · rw [if_neg c, if_neg c]
        exact hdr s hs
    have vns : S32.FI 543 (A 70) = nI ns := by
      rw [rep_FI r32 543 (by decide) m_al, sM.1 543 70 (by omega)]
      exact hns
    have v544 : S32.FI 544 (A 70) = nI (nl + 1) := by
      rw [rep_FI r32 544 (by decide) m_al]
      exact f544
    refine it3_ex (fun j S1 b v => S1 = S32 ∧ b = bI (fitb (gx G nl g) (nl + 1) j) ∧ v = nI j) ns ?_ ?_ ⟨rfl, rfl, rfl⟩
    · rintro j hj S1 _ _ k9 ⟨rfl, rfl, rfl⟩ hk9
      have l7 := rk2 j
      have dl := dp_le (lv := fun s => lv s + (if bh G nl (g 3) s = true then 4 else 0)) rk1 19 j (by omega)
      unfold wX8_isAdded_b175
      rw [vns]
      refine ⟨m_is r32, if_n (nI_ge hj (by omega)) (p_depthOf (lv := fun s => lv s + (if bh G nl (g 3) s = true then 4 else 0)) hG' rk1 m9 d9 19 j S1 _ (by decide) r32 hj (by omega) ?_)⟩
      have step : ∀ (b : Bool) (z : Int32), z = bI b → b = decide (dpF (gx G nl g) (nl + 1) 19 j ≤ 3) → wX8_isAdded_b201 (A 70) (nI (g 0)) (nI (g 1)) (sec (gx G nl g) nl) (nI (g 3)) (nI (g 4)) (nI (g 5)) Φ k9 S1 (nI j) (bI (fitb (gx G nl g) (nl + 1) j)) z := fun b z hz hb => by
        unfold wX8_isAdded_b201
        rw [← nI_succ]
        refine hk9 _ _ _ ⟨rfl, ?_, rfl⟩
        show _ = bI (fitb (gx G nl g) (nl + 1) j && decide (dpF (gx G nl g) (nl + 1) 19 j ≤ 3))
        rw [hz, ← hb]
        cases fitb (gx G nl g) (nl + 1) j <;> cases b <;> decide
      by_cases c : dpF (gx G nl g) (nl + 1) 19 j ≤ 3
      · exact if_n (nI_nlt (a := 3) c (by decide)) (step true 1 rfl (decide_eq_true c).symm)
      · exact if_p (nI_lt (a := 3) (by omega) (by omega)) (step false 0 rfl (decide_eq_false c).symm)
    · rintro S1 _ _ k9 ⟨rfl, rfl, rfl⟩
      unfold wX8_isAdded_b175
      rw [vns]
      refine ⟨m_is r32, if_p (nI_le (Nat.le_refl _) (by omega)) ?_⟩
      cases ef : fitb (gx G nl g) (nl + 1) ns
      · refine fi_p rfl (fun S4 e4 => ?_)
        rw [v544, nI_pred] at e4
        obtain ⟨D4, r4, u4, j4, o4, f4⟩ := t_setFI (r := 70) (i := 544) r32 m_al (by decide) e4
        have b79 := m_arr r4 519 79 21 14
        refine ⟨A 79, b79.1, b79.2.1, by rw [b79.2.2]; exact in_nI (by omega) (by decide), fun S8 e8 => ⟨narrow_bI false, ?_⟩⟩
        rw [cl_nI (by omega)] at e8
        obtain ⟨D8, r8, u8, j8, o8, i8⟩ := t_setAI (r := 79) r4 (al_s (by decide)) e8
        refine k0 S8 D8 r8 ⟨fun i r hr => ?_, fun r hr => ?_, fun r hr => ?_⟩ (Or.inr (Or.inr (fun q => ?_))) ?_ ?_ (fun s hs => ?_)
        · rw [u8, o4 i r hr]
          exact sM.1 i r hr
        · rw [o8 r (by omega), u4]
          exact sM.2.1 r hr
        · rw [j8, j4]
          exact sM.2.2 r hr
        · rw [(fitb_t ns).mpr ((fit_19 hG').mpr q)] at ef
          exact absurd ef (by decide)
        · rw [u8]
          exact f4
        · exact lkM_cg m9' (fun r q1 q2 => by rw [o8 r (by omega), u4])
        · rw [i8 s, u4]
          by_cases c : s = g 3
          · rw [if_pos c, c, ed]
          · rw [if_neg c, f79 s, if_neg c]
            exact hdr s hs
      · exact fi_n (by decide) ⟨narrow_bI true, k1 S1 D9 r32 sM hns2 ed ((fit_19 hG').mp ((fitb_t ns).mp ef)) f544 m9 d9⟩
  have b22 : ¬ sameG g → wX8_isAdded_b22 (A 70) (nI (g 0)) (nI (g 1)) (sec (gx G nl g) nl) (nI (g 3)) (nI (g 4)) (nI (g 5)) Φ S 0 := fun hs => by
    unfold wX8_isAdded_b22
    refine fi_p rfl ⟨m_is h, A 79, a79.1, a79.2.1, by rw [a79.2.2]; exact in_nI (by omega) (by decide), ?_⟩
    rw [v79]
    cases ed : drv G nl (g 3) with
    | some k =>
      have hk' := (drv_some ed).1
      exact fi_n (nI_nm (by omega)) (k0 S D h SamG.rf (Or.inr (Or.inl (by rw [ed]; exact (fun q => by cases q)))) hnl hM hdr)
    | none =>
      have hG' := gr_ext hG hk h1 h2 h3 ed
      have nofit : (bh G nl (g 3) (g 1) = true ∨ (g 0 = 112 ∧ bh G nl (g 3) (g 2) = true)) → ¬ ∀ s, s < ns → dpF (gx G nl g) (nl + 1) 4 s ≤ 3 := fun hb q => by
        obtain ⟨w1, w2⟩ := no_lead hG hL (lev_fit hG' q)
        rcases hb with hb | ⟨hp, hb⟩
        · rw [w1] at hb
          exact absurd hb (by decide)
        · rw [w2 hp] at hb
          exact absurd hb (by decide)
      refine fi_p rfl (p_leads hG hL hM hnl h1 h 19 (g 3) _ h3 (by omega) ?_)
      cases e1 : bh G nl (g 3) (g 1)
      · refine fi_p rfl ?_
        by_cases hp : g 0 = 112
        · have e2 : sec (gx G nl g) nl = nI (g 2) := hse.trans (if_pos hp)
          have hs2 := h2 hp
          rw [e2]
          refine if_n (nI_nm (by omega)) ⟨m_is h, p_leads hG hL hM hnl hs2 h 19 (g 3) _ h3 (by omega) ?_⟩
          cases e3 : bh G nl (g 3) (g 2)
          · rw [← e2]
            exact if_p rfl (b67 hs ed e1 (fun _ => e3))
          · exact if_n (by decide) (k0 S D h SamG.rf (Or.inr (Or.inr (nofit (Or.inr ⟨hp, e3⟩)))) hnl hM hdr)
        · exact if_p (hse.trans (if_neg hp)) (b67 hs ed e1 (fun q => absurd q hp))
      · exact fi_n (by decide) (k0 S D h SamG.rf (Or.inr (Or.inr (nofit (Or.inl e1)))) hnl hM hdr)
  have eqI : ∀ {u v : Nat}, u < ns → v < ns → nI u = nI v → u = v := fun hu hv q => (nI_iff (by omega) (by omega)).mp q
  unfold wX8_isAdded wX8_isAdded_b0
  by_cases c1 : g 1 = g 3
  · exact if_p (by rw [c1]) (b17 (Or.inl c1))
  refine if_n (fun q => c1 (eqI h1 h3 q)) ?_
  by_cases hp : g 0 = 112
  · have e2 : sec (gx G nl g) nl = nI (g 2) := hse.trans (if_pos hp)
    by_cases c2 : g 2 = g 3
    · exact if_p (by rw [e2, c2]) (b17 (Or.inr (Or.inl ⟨hp, c2⟩)))
    refine if_n (fun q => c2 (eqI (h2 hp) h3 (e2.symm.trans q))) ?_
    by_cases c3 : g 2 = g 1
    · exact fi_p (by rw [e2, c3]) (b17 (Or.inr (Or.inr ⟨hp, c3⟩)))
    · refine fi_n (fun q => c3 (eqI (h2 hp) h1 (e2.symm.trans q))) (b22 (fun q => ?_))
      rcases q with q | q | q
      · exact c1 q
      · exact c2 q.2
      · exact c3 q.2
  · have e2 : sec (gx G nl g) nl = -1 := hse.trans (if_neg hp)
    refine if_n (fun q => nI_nm (i := g 3) (by omega) (q.symm.trans e2)) (fi_n (fun q => nI_nm (i := g 1) (by omega) (q.symm.trans e2)) (b22 (fun q => ?_)))
    rcases q with q | q | q
    · exact c1 q
    · exact hp q.1
    · exact hp q.1
end MD9
