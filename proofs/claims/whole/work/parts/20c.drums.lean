/-! DRUMS: the class -/
def pup (pn : Nat → Nat → Nat → Bool) (d p t : Nat) (v : Bool) : Nat → Nat → Nat → Bool := fun d' p' t' => if d' = d ∧ p' = p ∧ t' = t then v else pn d' p' t'
theorem bit_self : ∀ t, t < 8 → ¬ ((1 : Int32) <<< (nI t &&& 31)) = 0 := by decide +kernel
theorem bit_oth : ∀ t, t < 8 → ∀ t', t' < 8 → t' ≠ t → ((1 : Int32) <<< (nI t &&& 31)) &&& ((1 : Int32) <<< (nI t' &&& 31)) = 0 := by decide +kernel
theorem bit_not : ∀ t, t < 8 → ∀ t', t' < 8 → (((1 : Int32) <<< (nI t &&& 31)) ^^^ (-1)) &&& ((1 : Int32) <<< (nI t' &&& 31)) = if t' = t then 0 else ((1 : Int32) <<< (nI t' &&& 31)) := by decide +kernel
theorem or_and_r (a b c : Int32) : (a ||| b) &&& c = (a &&& c) ||| (b &&& c) := by
  apply Int32.toBitVec_inj.mp
  show (a.toBitVec ||| b.toBitVec) &&& c.toBitVec = (a.toBitVec &&& c.toBitVec) ||| (b.toBitVec &&& c.toBitVec)
  apply BitVec.eq_of_getLsbD_eq
  intro i hi
  simp only [BitVec.getLsbD_and, BitVec.getLsbD_or]
  cases a.toBitVec.getLsbD i <;> cases b.toBitVec.getLsbD i <;> cases c.toBitVec.getLsbD i <;> rfl
section DC9
variable {A A' E : Nat → Nat} {ls : Nat → List Nat} {nl nc nd : Nat} {S : Hp} {D : Dt}
theorem p_drumC {Φ : Hp → Int32 → Prop} {Ψ : Hp → String → Prop} {ns : Nat} {x : Int32} (h : Rep A E ls nl nc nd S D) (h14 : ns ≤ 14) (hns : D.FI 461 0 = nI ns) (hl : nl ≤ 14) (hls : ls 3 = (List.range nd).map (fun c => A (600 + 3 * c))) (h8 : nc ≤ 8) (h4 : nd ≤ 4)
    (kt1 : ¬ inR x ns → Ψ S "java/lang/IndexOutOfBoundsException") (kt2 : inR x ns → ¬ nd < 4 → Ψ S "java/lang/IllegalStateException")
    (kk : ∀ s, s < ns → x = nI s → nd < 4 → ∀ S' A' E' ls' D', Rep A' E' ls' nl nc (nd + 1) S' D' → (∀ i r, ¬ nwD nd r = true → D'.FI i r = D.FI i r) → (∀ r, ¬ nwD nd r = true → D'.AI r = D.AI r ∧ D'.AJ r = D.AJ r) → (∀ r, al nl nc nd r → A' r = A r) → ls' 3 = (List.range (nd + 1)).map (fun c => A' (600 + 3 * c)) → (∀ i, i ≠ 3 → ls' i = ls i) → D'.FI 128 (600 + 3 * nd) = nI s → (∀ i, D'.AI (601 + 3 * nd) i = 0) → (∀ i, D'.AI (602 + 3 * nd) i = 0) → Φ S' (nI nd)) : wX7_drum S (A 0) x Φ Ψ := by
  unfold wX7_drum wX7_drum_b0
  refine ⟨c_is h, p_checkShaft h hns h14 (fun s hs e => ⟨c_is h, A (1 + 3), rep_fr h (451, 0, 4) (by decide), ls_is h (by decide), p_size h (j := 3) (by decide) ?_⟩) kt1⟩
  rw [drum_len hls]
  by_cases c : nd < 4
  · refine if_p (nI_lt (b := 4) c (by decide)) ⟨c_is h, A (1 + 3), rep_fr h (451, 0, 4) (by decide), fun a S12 ha e12 => ?_⟩
    rw [e12, e]
    refine p_newDrum h hl h8 c ha (fun S' A' r' same g0 v128 v601 v602 => ?_)
    have y : ∀ j, j < 3 → nwD nd (600 + j + 3 * nd) = true := fun j hj => nwD_e.mpr ⟨by omega, by omega⟩
    have uF : ∀ i r, ¬ nwD nd r = true → (D.putw (nwD nd) A' S').FI i r = D.FI i r := fun i r hr => if_neg hr
    have uA : ∀ r, ¬ nwD nd r = true → (D.putw (nwD nd) A' S').AI r = D.AI r ∧ (D.putw (nwD nd) A' S').AJ r = D.AJ r := fun r hr => ⟨funext fun i => if_neg hr, funext fun i => if_neg hr⟩
    have w128 : (D.putw (nwD nd) A' S').FI 128 (600 + 3 * nd) = nI s := (if_pos (y 0 (by decide))).trans v128
    have w601 : ∀ i, (D.putw (nwD nd) A' S').AI (601 + 3 * nd) i = 0 := fun i => (if_pos (y 1 (by decide))).trans (v601 i)
    have w602 : ∀ i, (D.putw (nwD nd) A' S').AI (602 + 3 * nd) i = 0 := fun i => (if_pos (y 2 (by decide))).trans (v602 i)
    generalize D.putw (nwD nd) A' S' = D' at *
    have sA : ∀ r, sdr r = true → A r = A' r := fun r hr => (same r (al_s hr)).symm
    rw [sA 0 (by decide), sA (1 + 3) (by decide)]
    have is1 : isA S' a 2 := by
      rw [← g0]
      have t1 : ∀ c, c < 4 → kdr (600 + 3 * c) = 2 := by decide
      exact rep_is r' (al_d (d := nd) (j := 0) (by omega) (by decide)) (t1 nd c)
    refine ⟨ls_is r' (by decide), p_lsadd r' (j := 3) (by decide) (by rw [drum_len hls]; omega) (Or.inr (Or.inl is1)) (fun S'' E' r'' _ => ⟨c_is r'', A' (1 + 3), rep_fr r'' (451, 0, 4) (by decide), ls_is r'' (by decide), p_size r'' (j := 3) (by decide) ?_⟩)⟩
    have hl2 : (if (3 : Nat) = 3 then ls 3 ++ [a] else ls 3) = (List.range (nd + 1)).map (fun c => A' (600 + 3 * c)) := by
      rw [if_pos rfl, List.range_succ, List.map_append, hls]
      congr 1
      · refine List.map_congr_left (fun c' hc' => ?_)
        exact (same _ (al_d (d := c') (j := 0) (List.mem_range.mp hc') (by decide))).symm
      · show [a] = [A' (600 + 3 * nd)]
        rw [g0]
    have elen : (if (3 : Nat) = 3 then ls 3 ++ [a] else ls 3).length = nd + 1 := by
      rw [hl2, List.length_map, List.length_range]
    rw [elen, nI_pred]
    exact kk s hs e c S'' A' E' _ D' r'' uF uA same hl2 (fun i hi => if_neg hi) w128 w601 w602
  · exact if_n (nI_nlt (b := 4) (by omega) (by omega)) (kt2 (by rw [e]; exact inR_nI hs (by omega)) c)
theorem drum_get {c : Nat} (hls : ls 3 = (List.range nd).map (fun c => A (600 + 3 * c))) (hc : c < nd) : (ls 3)[c]? = some (A (600 + 3 * c)) := by
  rw [hls, List.getElem?_map, List.getElem?_range hc]
  rfl
theorem p_drumAt {Φ : Hp → Option Nat → Prop} {Ψ : Hp → String → Prop} {x : Int32} (h : Rep A E ls nl nc nd S D) (hls : ls 3 = (List.range nd).map (fun c => A (600 + 3 * c))) (h8 : nd ≤ 4) (k : ∀ c, c < nd → x = nI c → Φ S (some (A (600 + 3 * c)))) (kt : ¬ inR x nd → Ψ S "java/lang/IndexOutOfBoundsException") : wX7_drumAt S (A 0) x Φ Ψ := by
  unfold wX7_drumAt wX7_drumAt_b0 wX7_drumAt_b15
  by_cases c : x < 0
  · exact if_p c (kt (fun q => by have := lt0_iff.mp c; have := q.1; omega))
  · refine if_n c ⟨c_is h, A (1 + 3), rep_fr h (451, 0, 4) (by decide), ls_is h (by decide), p_size h (j := 3) (by decide) ?_⟩
    rw [drum_len hls]
    by_cases c2 : x < nI nd
    · obtain ⟨s, hs, e⟩ := inR_ex (x := x) (n := nd) ⟨Int.not_lt.mp (fun q => c (lt0_iff.mpr q)), (ltn_iff (by omega)).mp c2⟩ (by omega)
      rw [e] at c2 ⊢
      exact if_p c2 ⟨c_is h, A (1 + 3), rep_fr h (451, 0, 4) (by decide), ls_is h (by decide), p_get (x := A (600 + 3 * s)) h (j := 3) (by decide) (drum_get hls hs) ⟨A (600 + 3 * s), rfl, (drm_ h hs (by omega)).1, k s hs e⟩⟩
    · exact if_n c2 (kt (fun q => c2 ((ltn_iff (by omega)).mpr q.2)))
theorem p_struckC {Φ : Hp → Int32 → Prop} {Ψ : Hp → String → Prop} {x1 x2 : Int32} (h : Rep A E ls nl nc nd S D) (hls : ls 3 = (List.range nd).map (fun c => A (600 + 3 * c))) (h4 : nd ≤ 4)
    (kt1 : ¬ inR x1 nd → Ψ S "java/lang/IndexOutOfBoundsException") (kt2 : inR x1 nd → ¬ (0 ≤ x2.toInt ∧ x2.toInt ≤ 7) → Ψ S "java/lang/IllegalArgumentException")
    (kk : ∀ d t, d < nd → t < 8 → x1 = nI d → x2 = nI t → Φ S (D.AI (602 + 3 * d) t)) : wX7_struck S (A 0) x1 x2 Φ Ψ := by
  unfold wX7_struck wX7_struck_b0
  refine ⟨c_is h, p_drumAt h hls h4 (fun d hd e => ⟨_, rfl, p_checkRange (fun a1 a2 => ?_) (fun q => kt2 (by rw [e]; exact inR_nI hd (by omega)) q)⟩) kt1⟩
  have a1' : (0 : Int) ≤ x2.toInt := a1
  have a2' : x2.toInt ≤ 7 := a2
  obtain ⟨t, ht, rfl⟩ := inR_ex (x := x2) (n := 8) ⟨a1', by omega⟩ (by decide)
  obtain ⟨g1, g2, g3, g4, g5, g6, g7⟩ := drm_ h hd (by omega)
  obtain ⟨l0, l1, l2⟩ := drm_al (nl := nl) (nc := nc) hd
  have v : S.AI (A (602 + 3 * d)) (nI t).toNatClampNeg = D.AI (602 + 3 * d) t := rd_I h l2 (by omega) rfl
  refine ⟨g1, _, g3, g5, by rw [g7]; exact in_nI ht (by decide), ?_⟩
  rw [v]
  exact kk d t hd ht e rfl
theorem p_pinC {Φ : Hp → Int32 → Prop} {Ψ : Hp → String → Prop} {x1 x2 x3 : Int32} {v : Bool} {pn : Nat → Nat → Nat → Bool} (h : Rep A E ls nl nc nd S D) (hls : ls 3 = (List.range nd).map (fun c => A (600 + 3 * c))) (h4 : nd ≤ 4) (hpn : MskM pn nd D)
    (kt1 : ¬ inR x1 nd → Ψ S "java/lang/IndexOutOfBoundsException") (kt2 : inR x1 nd → ¬ ((0 ≤ x2.toInt ∧ x2.toInt ≤ 23) ∧ (0 ≤ x3.toInt ∧ x3.toInt ≤ 7)) → Ψ S "java/lang/IllegalArgumentException")
    (kk : ∀ d p t, d < nd → p < 24 → t < 8 → x1 = nI d → x2 = nI p → x3 = nI t → ∀ S' D', Rep A E ls nl nc nd S' D' → SamG (fun _ _ => False) (fun r => r = 601 + 3 * d) (fun _ => False) D D' → MskM (pup pn d p t v) nd D' → Φ S' (bI (pn d p t))) : wX7_pin S (A 0) x1 x2 x3 (bI v) Φ Ψ := by
  unfold wX7_pin wX7_pin_b0
  refine ⟨c_is h, p_drumAt h hls h4 (fun d hd e => ⟨_, rfl, p_checkRange (fun a1 a2 => p_checkRange (fun b1 b2 => ?_) (fun q => kt2 (by rw [e]; exact inR_nI hd (by omega)) (fun w => q w.2))) (fun q => kt2 (by rw [e]; exact inR_nI hd (by omega)) (fun w => q w.1))⟩) kt1⟩
  have a1' : (0 : Int) ≤ x2.toInt := a1
  have a2' : x2.toInt ≤ 23 := a2
  have b1' : (0 : Int) ≤ x3.toInt := b1
  have b2' : x3.toInt ≤ 7 := b2
  obtain ⟨p, hp, rfl⟩ := inR_ex (x := x2) (n := 24) ⟨a1', by omega⟩ (by decide)
  obtain ⟨t, ht, rfl⟩ := inR_ex (x := x3) (n := 8) ⟨b1', by omega⟩ (by decide)
  obtain ⟨g1, g2, g3, g4, g5, g6, g7⟩ := drm_ h hd (by omega)
  obtain ⟨l0, l1, l2⟩ := drm_al (nl := nl) (nc := nc) hd
  have vm : S.AI (A (601 + 3 * d)) (nI p).toNatClampNeg = D.AI (601 + 3 * d) p := rd_I h l1 (by omega) rfl
  have p24 : vp_in (nI p) (S.N (A (601 + 3 * d))) := by
    rw [g6]
    exact in_nI hp (by decide)
  -- the row after
  have after : ∀ m : Int32, (∀ t', t' < 8 → (m &&& (1 <<< (nI t' &&& 31)) = 0 ↔ (if t' = t then v else pn d p t') = false)) → ∀ z : Bool, z = pn d p t → wX2_setPin_b56 (A (600 + 3 * d)) (nI p) (nI t) (bI v) (fun S7 r8 => narrow .boolean (.int r8) = .int r8 ∧ Φ S7 r8) S (bI z) (A (601 + 3 * d)) (nI p) m := by
    intro m hm z hz
    unfold wX2_setPin_b56
    refine ⟨g4, p24, fun S3 e3 => ?_⟩
    rw [cl_nI (by omega)] at e3
    obtain ⟨D3, r3, u3, j3, o3, i3⟩ := t_setAI (r := 601 + 3 * d) h l1 e3
    refine ⟨narrow_bI _, narrow_bI _, ?_⟩
    rw [hz]
    refine kk d p t hd hp ht e rfl rfl S3 D3 r3 ⟨fun i r _ => by rw [u3], o3, fun r _ => by rw [j3]⟩ (fun d' p' t' hd' hp' ht' => ?_)
    unfold pup
    by_cases cd : d' = d
    · rw [cd, i3 p']
      by_cases cp : p' = p
      · rw [if_pos cp, hm t' ht', cp]
        by_cases ct : t' = t
        · rw [if_pos ct, if_pos ⟨rfl, rfl, ct⟩]
        · rw [if_neg ct, if_neg (fun q => ct q.2.2)]
      · rw [if_neg cp, if_neg (fun q => cp q.2.1)]
        exact hpn d p' t' hd hp' ht'
    · rw [o3 _ (by omega), if_neg (fun q => cd q.1)]
      exact hpn d' p' t' hd' hp' ht'
  have mid : ∀ z : Bool, z = pn d p t → wX2_setPin_b22 (A (600 + 3 * d)) (nI p) (nI t) (bI v) (fun S7 r8 => narrow .boolean (.int r8) = .int r8 ∧ Φ S7 r8) S (1 <<< (nI t &&& 31)) (bI z) := by
    intro z hz
    unfold wX2_setPin_b22
    refine ⟨g1, _, g2, ?_⟩
    cases ev : v with
    | false =>
      refine if_p rfl ⟨_, g2, g4, p24, ?_⟩
      rw [vm, ← ev]
      refine after _ (fun t' ht' => ?_) z hz
      rw [Int32.and_assoc, bit_not t ht t' ht', ev]
      by_cases ct : t' = t
      · rw [if_pos ct, if_pos ct, Int32.and_zero]
        exact ⟨fun _ => rfl, fun _ => rfl⟩
      · rw [if_neg ct, if_neg ct]
        exact hpn d p t' hd hp ht'
    | true =>
      refine if_n (by decide) ⟨_, g2, g4, p24, ?_⟩
      rw [vm, ← ev]
      refine after _ (fun t' ht' => ?_) z hz
      rw [or_and_r, ev]
      by_cases ct : t' = t
      · rw [if_pos ct, ct, Int32.and_self]
        refine ⟨fun q => absurd (Int32.or_eq_zero_iff.mp q).2 (bit_self t ht), fun q => absurd q (by decide)⟩
      · rw [if_neg ct, bit_oth t ht t' ht' ct, Int32.or_zero]
        exact hpn d p t' hd hp ht'
  refine ⟨g1, ?_⟩
  unfold wX2_setPin wX2_setPin_b0
  refine ⟨g1, _, g2, g4, p24, ?_⟩
  rw [vm]
  have hb := hpn d p t hd hp ht
  cases ep : pn d p t with
  | false => exact if_p (hb.mpr ep) (mid false ep.symm)
  | true => exact if_n (fun q => by rw [hb.mp q] at ep; exact absurd ep (by decide)) (mid true ep.symm)
end DC9
