/-! A CAM IS MADE; cam, drum of the class -/
section NC9
variable {A A' E : Nat → Nat} {ls : Nat → List Nat} {nl nc nd : Nat} {S : Hp} {D : Dt}
theorem p_newCam {Φ : Hp → Prop} {a : Nat} {x : Int32} (h : Rep A E ls nl nc nd S D) (hl : nl ≤ 14) (h8 : nc < 8) (ha : a ∉ S.L)
    (kk : ∀ S' A' D', Rep A' E ls nl (nc + 1) nd S' D' → (∀ i r, ¬ nwC nc r = true → D'.FI i r = D.FI i r) → (∀ r, ¬ nwC nc r = true → D'.AI r = D.AI r ∧ D'.AJ r = D.AJ r) → (∀ r, al nl nc nd r → A' r = A r) → A' (500 + 5 * nc) = a → D'.FI 64 (500 + 5 * nc) = x → D'.FI 69 (500 + 5 * nc) = 0 → D'.FI 70 (500 + 5 * nc) = 0 → (∀ i, i < 24 → D'.AI (504 + 5 * nc) i = -1) → Φ S') : wX1_init (S.new a 1 0) a x Φ := by
  unfold wX1_init wX1_init_b0
  have z0 := kN_fresh (S := S) (q := a) (k := 1) (n := 0)
  have r0 := rep_new h 1 0 ha
  have off0 := off_new h ha
  generalize S.new a 1 0 = S0 at *
  intro b S2 hb e2
  have z1 := kN_fresh (S := S0) (q := b) (k := 21) (n := 24)
  have k1 := kp2_new (S := S0) (q := b) (k := 21) (n := 24) hb
  have r1 := rep_new r0 21 24 hb
  have off1 := off_new r0 hb
  rw [← e2] at z1 k1 r1
  have hab : b ≠ a := fun e => hb (e ▸ z0.1.1)
  refine ⟨k1.1 _ _ z0.1, fun S4 e4 => ?_⟩
  have r4 : Rep A E ls nl nc nd S4 D := by
    rw [e4]
    exact off_FR r1 _ off0
  have k4 : Kp2 S2 S4 := by
    rw [e4]
    exact kp2_FR
  have f4 : S4.FR 65 a = some b := by
    rw [e4]
    exact hpFR_s
  intro c S6 hc e6
  have z2 := kN_fresh (S := S4) (q := c) (k := 21) (n := 24)
  have k6 := kp2_new (S := S4) (q := c) (k := 21) (n := 24) hc
  have r6 := rep_new r4 21 24 hc
  have off2 := off_new r4 hc
  have hca : c ≠ a := fun e => hc (e ▸ (k1.tr k4).1 _ _ z0.1 |>.1)
  have hcb : c ≠ b := fun e => hc (e ▸ k4.1 _ _ z1.1 |>.1)
  have f6 : S6.FR 65 a = some b := by
    rw [e6]
    exact (if_neg (fun q => hca q.symm)).trans f4
  rw [← e6] at z2 k6 r6
  intro S7 e7
  have r7 : Rep A E ls nl nc nd S7 D := by
    rw [e7]
    exact off_FR r6 _ off0
  have k7 : Kp2 S6 S7 := by
    rw [e7]
    exact kp2_FR
  have f7 : S7.FR 65 a = some b ∧ S7.FR 66 a = some c := by
    rw [e7]
    exact ⟨(hpFR_n (by omega)).trans f6, hpFR_s⟩
  intro d S9 hd e9
  have z3 := kN_fresh (S := S7) (q := d) (k := 20) (n := 24)
  have k9 := kp2_new (S := S7) (q := d) (k := 20) (n := 24) hd
  have r9 := rep_new r7 20 24 hd
  have off3 := off_new r7 hd
  have hda : d ≠ a := fun e => hd (e ▸ (((k1.tr k4).tr k6).tr k7).1 _ _ z0.1 |>.1)
  have hdb : d ≠ b := fun e => hd (e ▸ ((k4.tr k6).tr k7).1 _ _ z1.1 |>.1)
  have hdc : d ≠ c := fun e => hd (e ▸ k7.1 _ _ z2.1 |>.1)
  have f9 : S9.FR 65 a = some b ∧ S9.FR 66 a = some c := by
    rw [e9]
    exact ⟨(if_neg (fun q => hda q.symm)).trans f7.1, (if_neg (fun q => hda q.symm)).trans f7.2⟩
  rw [← e9] at z3 k9 r9
  intro S10 e10
  have r10 : Rep A E ls nl nc nd S10 D := by
    rw [e10]
    exact off_FR r9 _ off0
  have k10 : Kp2 S9 S10 := by
    rw [e10]
    exact kp2_FR
  have f10 : S10.FR 65 a = some b ∧ S10.FR 66 a = some c ∧ S10.FR 67 a = some d := by
    rw [e10]
    exact ⟨(hpFR_n (by omega)).trans f9.1, (hpFR_n (by omega)).trans f9.2, hpFR_s⟩
  intro e S12 he e12
  have z4 := kN_fresh (S := S10) (q := e) (k := 21) (n := 24)
  have k12 := kp2_new (S := S10) (q := e) (k := 21) (n := 24) he
  have r12 := rep_new r10 21 24 he
  have off4 := off_new r10 he
  have hea : e ≠ a := fun q => he (q ▸ (((((k1.tr k4).tr k6).tr k7).tr k9).tr k10).1 _ _ z0.1 |>.1)
  have heb : e ≠ b := fun q => he (q ▸ ((((k4.tr k6).tr k7).tr k9).tr k10).1 _ _ z1.1 |>.1)
  have hec : e ≠ c := fun q => he (q ▸ ((k7.tr k9).tr k10).1 _ _ z2.1 |>.1)
  have hed : e ≠ d := fun q => he (q ▸ k10.1 _ _ z3.1 |>.1)
  have f12 : S12.FR 65 a = some b ∧ S12.FR 66 a = some c ∧ S12.FR 67 a = some d := by
    rw [e12]
    exact ⟨(if_neg (fun q => hea q.symm)).trans f10.1, (if_neg (fun q => hea q.symm)).trans f10.2.1, (if_neg (fun q => hea q.symm)).trans f10.2.2⟩
  rw [← e12] at z4 k12 r12
  intro S13 e13 S14 e14
  have r13 : Rep A E ls nl nc nd S13 D := by
    rw [e13]
    exact off_FR r12 _ off0
  have k13 : Kp2 S12 S13 := by
    rw [e13]
    exact kp2_FR
  have f14 : S14.FR 65 a = some b ∧ S14.FR 66 a = some c ∧ S14.FR 67 a = some d ∧ S14.FR 68 a = some e := by
    rw [e14, e13]
    exact ⟨(hpFR_n (by omega)).trans f12.1, (hpFR_n (by omega)).trans f12.2.1, (hpFR_n (by omega)).trans f12.2.2, hpFR_s⟩
  have r14 : Rep A E ls nl nc nd S14 D := by
    rw [e14]
    exact off_FI r13 _ off0 (by decide)
  have ka := ((((((k1.tr k4).tr k6).tr k7).tr k9).tr k10).tr k12).tr k13
  have kb := (((((k4.tr k6).tr k7).tr k9).tr k10).tr k12).tr k13
  have kc := (((k7.tr k9).tr k10).tr k12).tr k13
  have kd := (k10.tr k12).tr k13
  have a8 : isA S14 a 1 ∧ S14.N a = 0 ∧ S14.FI 64 a = x ∧ S14.FI 69 a = 0 ∧ S14.FI 70 a = 0 := by
    rw [e14]
    refine ⟨ka.1 _ _ z0.1, (ka.2 a z0.1.1).1.trans z0.2.1, hpFI_s, ?_, ?_⟩
    · rw [hpFI_n (by omega), (ka.2 a z0.1.1).2.1]
      exact z0.2.2.1 69
    · rw [hpFI_n (by omega), (ka.2 a z0.1.1).2.1]
      exact z0.2.2.1 70
  have b8 : isA S14 b 21 ∧ S14.N b = 24 := by
    rw [e14]
    exact ⟨kb.1 _ _ z1.1, (kb.2 b z1.1.1).1.trans z1.2.1⟩
  have c8 : isA S14 c 21 ∧ S14.N c = 24 := by
    rw [e14]
    exact ⟨kc.1 _ _ z2.1, (kc.2 c z2.1.1).1.trans z2.2.1⟩
  have d8 : isA S14 d 20 ∧ S14.N d = 24 := by
    rw [e14]
    exact ⟨kd.1 _ _ z3.1, (kd.2 d z3.1.1).1.trans z3.2.1⟩
  have e8 : isA S14 e 21 ∧ S14.N e = 24 := by
    rw [e14]
    exact ⟨k13.1 _ _ z4.1, (k13.2 e z4.1.1).1.trans z4.2.1⟩
  obtain ⟨A', i1, i2, i3⟩ := swap_L h.1.1 [(500 + 5 * nc, a), (501 + 5 * nc, b), (502 + 5 * nc, c), (503 + 5 * nc, d), (504 + 5 * nc, e)] (fun x hx y hy => by
    simp only [List.mem_cons, List.not_mem_nil, or_false] at hx hy
    rcases hx with rfl | rfl | rfl | rfl | rfl <;> rcases hy with rfl | rfl | rfl | rfl | rfl <;> constructor <;> intro q <;> first | rfl | (exact absurd q (by omega)) | (exact absurd q hab) | (exact absurd q hab.symm) | (exact absurd q hca) | (exact absurd q hca.symm) | (exact absurd q hcb) | (exact absurd q hcb.symm) | (exact absurd q hda) | (exact absurd q hda.symm) | (exact absurd q hdb) | (exact absurd q hdb.symm) | (exact absurd q hdc) | (exact absurd q hdc.symm) | (exact absurd q hea) | (exact absurd q hea.symm) | (exact absurd q heb) | (exact absurd q heb.symm) | (exact absurd q hec) | (exact absurd q hec.symm) | (exact absurd q hed) | (exact absurd q hed.symm))
  have g0 : A' (500 + 5 * nc) = a := i2 (500 + 5 * nc, a) (by simp)
  have g1 : A' (501 + 5 * nc) = b := i2 (501 + 5 * nc, b) (by simp)
  have g2 : A' (502 + 5 * nc) = c := i2 (502 + 5 * nc, c) (by simp)
  have g3 : A' (503 + 5 * nc) = d := i2 (503 + 5 * nc, d) (by simp)
  have g4 : A' (504 + 5 * nc) = e := i2 (504 + 5 * nc, e) (by simp)
  have same : ∀ r, al nl nc nd r → A' r = A r := fun r hr => i3 r (fun x hx => by
    have hn := al_nwC hl hr h8
    have hn' : ¬ (500 + 5 * nc ≤ r ∧ r < 505 + 5 * nc) := fun q => hn (nwC_e.mpr q)
    simp only [List.mem_cons, List.not_mem_nil, or_false] at hx
    rcases hx with rfl | rfl | rfl | rfl | rfl
    · exact ⟨by omega, off0 r hr⟩
    · exact ⟨by omega, off1 r hr⟩
    · exact ⟨by omega, off2 r hr⟩
    · exact ⟨by omega, off3 r hr⟩
    · exact ⟨by omega, off4 r hr⟩)
  have t1 : ∀ c, c < 8 → (kdr (500 + 5 * c) = 1 ∧ kdr (501 + 5 * c) = 21 ∧ kdr (502 + 5 * c) = 21 ∧ kdr (503 + 5 * c) = 20 ∧ kdr (504 + 5 * c) = 21) := by decide
  have t2 : ∀ c, c < 8 → (ndr (500 + 5 * c) = 0 ∧ ndr (501 + 5 * c) = 24 ∧ ndr (502 + 5 * c) = 24 ∧ ndr (503 + 5 * c) = 24 ∧ ndr (504 + 5 * c) = 24) := by decide
  obtain ⟨q0, q1, q2, q3, q4⟩ := t1 nc h8
  obtain ⟨w0, w1, w2, w3, w4⟩ := t2 nc h8
  have R := rep_addg (nw := nwC nc) r14 i1 same (fun r hr => al_sC hr) (fun r hr => al_nwC hl hr h8) (fun r hr => by
    have hr' := nwC_e.mp hr
    rcases (show r = 500 + 5 * nc ∨ r = 501 + 5 * nc ∨ r = 502 + 5 * nc ∨ r = 503 + 5 * nc ∨ r = 504 + 5 * nc by omega) with e | e | e | e | e <;> rw [e]
    · rw [g0, q0, w0]
      exact ⟨a8.1, a8.2.1⟩
    · rw [g1, q1, w1]
      exact ⟨b8.1, b8.2⟩
    · rw [g2, q2, w2]
      exact ⟨c8.1, c8.2⟩
    · rw [g3, q3, w3]
      exact ⟨d8.1, d8.2⟩
    · rw [g4, q4, w4]
      exact ⟨e8.1, e8.2⟩) (fun c' u1 u2 => by
    have ec : c' = nc := by omega
    rw [ec, g0, g1, g2, g3, g4]
    exact f14) (fun d u1 u2 => absurd u1 u2)
  refine ⟨e, f14.2.2.2, ?_⟩
  rw [← g4]
  have y0 : nwC nc (500 + 5 * nc) = true := nwC_e.mpr ⟨by omega, by omega⟩
  refine p_fillI (r := 504 + 5 * nc) (n := 24) R (al_c (c := nc) (j := 4) (by omega) (by decide)) q4 w4 (by decide) (fun S' r' => ?_)
  refine kk S' A' _ r' (fun i r hr => if_neg hr) (fun r hr => ?_) same g0 ?_ ?_ ?_ (fun i hi => if_pos ⟨rfl, hi⟩)
  · have hr' : ¬ (500 + 5 * nc ≤ r ∧ r < 505 + 5 * nc) := fun q => hr (nwC_e.mpr q)
    refine ⟨funext fun i => ?_, funext fun i => if_neg hr⟩
    exact (if_neg (fun q => hr' ⟨by omega, by omega⟩)).trans (if_neg hr)
  · exact (if_pos y0).trans (by rw [g0]; exact a8.2.2.1)
  · exact (if_pos y0).trans (by rw [g0]; exact a8.2.2.2.1)
  · exact (if_pos y0).trans (by rw [g0]; exact a8.2.2.2.2)
theorem drum_len (hls : ls 3 = (List.range nd).map (fun c => A (600 + 3 * c))) : (ls 3).length = nd := by
  rw [hls, List.length_map, List.length_range]
theorem p_camC {Φ : Hp → Int32 → Prop} {Ψ : Hp → String → Prop} {ns : Nat} {x : Int32} (h : Rep A E ls nl nc nd S D) (h14 : ns ≤ 14) (hns : D.FI 461 0 = nI ns) (hl : nl ≤ 14) (hls : ls 2 = (List.range nc).map (fun c => A (500 + 5 * c))) (h8 : nc ≤ 8)
    (kt1 : ¬ inR x ns → Ψ S "java/lang/IndexOutOfBoundsException") (kt2 : inR x ns → ¬ nc < 8 → Ψ S "java/lang/IllegalStateException")
    (kk : ∀ s, s < ns → x = nI s → nc < 8 → ∀ S' A' E' ls' D', Rep A' E' ls' nl (nc + 1) nd S' D' → (∀ i r, ¬ nwC nc r = true → D'.FI i r = D.FI i r) → (∀ r, ¬ nwC nc r = true → D'.AI r = D.AI r ∧ D'.AJ r = D.AJ r) → (∀ r, al nl nc nd r → A' r = A r) → ls' 2 = (List.range (nc + 1)).map (fun c => A' (500 + 5 * c)) → (∀ i, i ≠ 2 → ls' i = ls i) → CmC (s, 0, fun _ => 0, fun _ => 0, fun _ => 0, fun _ => 0) nc D' → Φ S' (nI nc)) : wX7_cam S (A 0) x Φ Ψ := by
  unfold wX7_cam wX7_cam_b0
  refine ⟨c_is h, p_checkShaft h hns h14 (fun s hs e => ⟨c_is h, A (1 + 2), rep_fr h (450, 0, 3) (by decide), ls_is h (by decide), p_size h (j := 2) (by decide) ?_⟩) kt1⟩
  rw [cam_len hls]
  by_cases c : nc < 8
  · refine if_p (nI_lt (b := 8) c (by decide)) ⟨c_is h, A (1 + 2), rep_fr h (450, 0, 3) (by decide), fun a S12 ha e12 => ?_⟩
    rw [e12, e]
    refine p_newCam h hl c ha (fun S' A' D' r' uF uA same g0 v64 v69 v70 v504 => ?_)
    have sA : ∀ r, sdr r = true → A r = A' r := fun r hr => (same r (al_s hr)).symm
    rw [sA 0 (by decide), sA (1 + 2) (by decide)]
    have is1 : isA S' a 1 := by
      rw [← g0]
      have t1 : ∀ c, c < 8 → kdr (500 + 5 * c) = 1 := by decide
      exact rep_is r' (al_c (c := nc) (j := 0) (by omega) (by decide)) (t1 nc c)
    refine ⟨ls_is r' (by decide), p_lsadd r' (j := 2) (by decide) (by rw [cam_len hls]; omega) (Or.inl is1) (fun S'' E' r'' _ => ⟨c_is r'', A' (1 + 2), rep_fr r'' (450, 0, 3) (by decide), ls_is r'' (by decide), p_size r'' (j := 2) (by decide) ?_⟩)⟩
    have hl2 : (if (2 : Nat) = 2 then ls 2 ++ [a] else ls 2) = (List.range (nc + 1)).map (fun c => A' (500 + 5 * c)) := by
      rw [if_pos rfl, List.range_succ, List.map_append, hls]
      congr 1
      · refine List.map_congr_left (fun c' hc' => ?_)
        exact (same _ (al_c (c := c') (j := 0) (List.mem_range.mp hc') (by decide))).symm
      · show [a] = [A' (500 + 5 * nc)]
        rw [g0]
    have elen : (if (2 : Nat) = 2 then ls 2 ++ [a] else ls 2).length = nc + 1 := by
      rw [hl2, List.length_map, List.length_range]
    rw [elen, nI_pred]
    refine kk s hs e c S'' A' E' _ D' r'' uF uA same hl2 (fun i hi => if_neg hi) ⟨v64, v69, v70, fun j hj => absurd hj (Nat.not_lt_zero j), fun j hj => ?_⟩
    rw [v504 j hj]
    rfl
  · exact if_n (nI_nlt (b := 8) (by omega) (by omega)) (kt2 (by rw [e]; exact inR_nI hs (by omega)) c)
end NC9
