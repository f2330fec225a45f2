/-! A STEP OF THE CLASS, all links in their order -/
def OlOK (G : Nat → Nat → Nat) (nl : Nat) (ol : List Nat) : Prop := ol.length ≤ 16 ∧ (∀ k, k < nl → k ∈ ol) ∧ ∀ (j k : Nat), ol[j]? = some k → k < nl ∧ k ∉ ol.take j ∧ ∀ k', k' < nl → src G k (G k' 3) → k' ∈ ol.take j
def Td (G : Nat → Nat → Nat) (act : Nat → Bool) (inp : Nat) (tn : Nat → Rat) (l : List Nat) (s : Nat) : Rat := if (decide (s = inp) || l.any (fun k => act k && decide (G k 3 = s))) = true then tn s else 0
theorem take_succ {ol : List Nat} {j k : Nat} (h : ol[j]? = some k) : ol.take (j + 1) = ol.take j ++ [k] := by
  obtain ⟨h1, h2⟩ := List.getElem?_eq_some_iff.mp h
  rw [List.take_succ, h]
  rfl
theorem td_all {G : Nat → Nat → Nat} {nl : Nat} {act : Nat → Bool} {P : Nat → Rat} {mk mk' : Nat → Int} {inp : Nat} {wy : Int} {tn : Nat → Rat} {l : List Nat} (hst : StepEq G nl act P mk inp wy tn mk') {s : Nat} (h : ∀ k, k < nl → G k 3 = s → k ∈ l) : Td G act inp tn l s = tn s := by
  unfold Td
  by_cases c : (decide (s = inp) || l.any (fun k => act k && decide (G k 3 = s))) = true
  · rw [if_pos c]
  · rw [if_neg c]
    simp only [Bool.or_eq_true, decide_eq_true_eq, List.any_eq_true, Bool.and_eq_true, not_or] at c
    refine (hst.2.1 s c.1 (fun k hk ha e => c.2 ⟨k, h k hk e, ha, e⟩)).symm
theorem td_bd {G : Nat → Nat → Nat} {nl : Nat} {act : Nat → Bool} {inp : Nat} {tn : Nat → Rat} {l : List Nat} (h : ∀ s, Bd (pm G nl s) (qm G nl s) (tn s)) : ∀ s, Bd (pm G nl s) (qm G nl s) (Td G act inp tn l s) := by
  intro s
  unfold Td
  by_cases c : (decide (s = inp) || l.any (fun k => act k && decide (G k 3 = s))) = true
  · rw [if_pos c]
    exact h s
  · rw [if_neg c]
    exact bd_le (bd_0 _) (Nat.zero_le _)
theorem td_succ {G : Nat → Nat → Nat} {act : Nat → Bool} {inp : Nat} {tn : Nat → Rat} {l : List Nat} {k : Nat} : Td G act inp tn (l ++ [k]) = if act k = true then vup (Td G act inp tn l) (G k 3) (tn (G k 3)) else Td G act inp tn l := by
  funext s
  unfold Td vup
  rw [List.any_append]
  by_cases ha : act k = true
  · rw [if_pos ha]
    by_cases e : s = G k 3
    · rw [if_pos e, if_pos ?_, e]
      simp [ha, e]
    · rw [if_neg e]
      have e2 : [k].any (fun k => act k && decide (G k 3 = s)) = false := by
        simp [ha]
        exact fun q => e q.symm
      rw [e2, Bool.or_false]
  · rw [if_neg ha]
    have e2 : [k].any (fun k => act k && decide (G k 3 = s)) = false := by
      simp [ha]
    rw [e2, Bool.or_false]
theorem cpy_AJ {D : Dt} {p p' n r : Nat} (h1 : r ≠ 30 + 2 * p) (h2 : r ≠ 31 + 2 * p) : ((D.cpyJ (30 + 2 * p) (30 + 2 * p') n).cpyJ (31 + 2 * p) (31 + 2 * p') n).AJ r = D.AJ r := by
  funext i
  show (if r = 31 + 2 * p ∧ i < n then (D.cpyJ (30 + 2 * p) (30 + 2 * p') n).AJ (31 + 2 * p') i else if r = 30 + 2 * p ∧ i < n then D.AJ (30 + 2 * p') i else D.AJ r i) = _
  rw [if_neg (fun q => h2 q.1), if_neg (fun q => h1 q.1)]
theorem rowV_cpy {D : Dt} {p p' n : Nat} {V : Nat → Rat} (h : RowV D p' n V) (hp : p ≠ p') : RowV ((D.cpyJ (30 + 2 * p) (30 + 2 * p') n).cpyJ (31 + 2 * p) (31 + 2 * p') n) p n V := by
  intro i hi
  have h1 := h i hi
  have e1 : ((D.cpyJ (30 + 2 * p) (30 + 2 * p') n).cpyJ (31 + 2 * p) (31 + 2 * p') n).AJ (30 + 2 * p) i = D.AJ (30 + 2 * p') i := by
    show (if 30 + 2 * p = 31 + 2 * p ∧ i < n then (D.cpyJ (30 + 2 * p) (30 + 2 * p') n).AJ (31 + 2 * p') i else if 30 + 2 * p = 30 + 2 * p ∧ i < n then D.AJ (30 + 2 * p') i else D.AJ (30 + 2 * p) i) = _
    rw [if_neg (fun q => by omega), if_pos ⟨rfl, hi⟩]
  have e2 : ((D.cpyJ (30 + 2 * p) (30 + 2 * p') n).cpyJ (31 + 2 * p) (31 + 2 * p') n).AJ (31 + 2 * p) i = D.AJ (31 + 2 * p') i := by
    show (if 31 + 2 * p = 31 + 2 * p ∧ i < n then (if 31 + 2 * p' = 30 + 2 * p ∧ i < n then D.AJ (30 + 2 * p') i else D.AJ (31 + 2 * p') i) else (D.cpyJ (30 + 2 * p) (30 + 2 * p') n).AJ (31 + 2 * p) i) = _
    rw [if_pos ⟨rfl, hi⟩, if_neg (fun q => by omega)]
  rw [e1, e2]
  exact h1
theorem samJ_cpy {X : Nat → Prop} {D : Dt} {p p' n : Nat} (h1 : X (30 + 2 * p)) (h2 : X (31 + 2 * p)) : SamJ X D ((D.cpyJ (30 + 2 * p) (30 + 2 * p') n).cpyJ (31 + 2 * p) (31 + 2 * p') n) := ⟨rfl, rfl, rfl, fun _ hr => cpy_AJ (fun e => hr (e ▸ h1)) (fun e => hr (e ▸ h2))⟩
theorem fill_AJ {D : Dt} {p n r : Nat} (h1 : r ≠ 30 + 2 * p) (h2 : r ≠ 31 + 2 * p) : ((D.fillJ (30 + 2 * p) n 0).fillJ (31 + 2 * p) n 1).AJ r = D.AJ r := by
  funext i
  show (if r = 31 + 2 * p ∧ i < n then 1 else if r = 30 + 2 * p ∧ i < n then 0 else D.AJ r i) = _
  rw [if_neg (fun q => h2 q.1), if_neg (fun q => h1 q.1)]
theorem fq_0 : Fq 0 1 0 := ⟨rfl, rfl⟩
theorem rowV_fill {D : Dt} {p n : Nat} : RowV ((D.fillJ (30 + 2 * p) n 0).fillJ (31 + 2 * p) n 1) p n (fun _ => 0) := by
  intro i hi
  have e1 : ((D.fillJ (30 + 2 * p) n 0).fillJ (31 + 2 * p) n 1).AJ (30 + 2 * p) i = 0 := by
    show (if 30 + 2 * p = 31 + 2 * p ∧ i < n then 1 else if 30 + 2 * p = 30 + 2 * p ∧ i < n then 0 else D.AJ (30 + 2 * p) i) = _
    rw [if_neg (fun q => by omega), if_pos ⟨rfl, hi⟩]
  have e2 : ((D.fillJ (30 + 2 * p) n 0).fillJ (31 + 2 * p) n 1).AJ (31 + 2 * p) i = 1 := by
    show (if 31 + 2 * p = 31 + 2 * p ∧ i < n then 1 else (D.fillJ (30 + 2 * p) n 0).AJ (31 + 2 * p) i) = _
    rw [if_pos ⟨rfl, hi⟩]
  rw [e1, e2]
  exact fq_0
theorem samJ_fill {X : Nat → Prop} {D : Dt} {p n : Nat} (h1 : X (30 + 2 * p)) (h2 : X (31 + 2 * p)) : SamJ X D ((D.fillJ (30 + 2 * p) n 0).fillJ (31 + 2 * p) n 1) := ⟨rfl, rfl, rfl, fun _ hr => fill_AJ (fun e => hr (e ▸ h1)) (fun e => hr (e ▸ h2))⟩
section TS9
variable {A E : Nat → Nat} {ls : Nat → List Nat} {nl nc nd : Nat} {S : Hp} {D : Dt} {G : Nat → Nat → Nat}
theorem c_is (h : Rep A E ls nl nc nd S D) : isA S (A 0) 7 := rep_is h (al_s (by decide)) (by decide)
theorem c_al : al nl nc nd 0 := al_s (by decide)
theorem p_turnInput {Φ : Hp → Prop} {ns m n inp : Nat} {wy : Int} {x : Int32} {P : Nat → Rat} (h : Rep A E ls nl nc nd S D) (hm : m < 3) (hG : GrOK ns nl G) (hP : RowV D (2 + 3 * m) 14 P) (hi : inp < ns) (hx : x.toInt64 = i6 wy) (hw : wy.natAbs ≤ 1) (hn : n ≤ 24560) (hB : BdP G nl n P)
    (kk : ∀ S' D', Rep A E ls nl nc nd S' D' → SamJ (XM m) D D' → RowV D' (3 + 3 * m) 14 P → RowV D' (4 + 3 * m) 14 (bs inp wy) → RowV D' (2 + 3 * m) 14 (fun s => P s + bs inp wy s) → D'.AJ (60 + m) = D.AJ (60 + m) → Φ S') : wX6_turnInput S (A (20 + m)) (nI inp) x Φ := by
  obtain ⟨m1, m2, m3, m4, m5, m6, m7, m8, m9, m10⟩ := mot_ h hm
  have hns := hG.1
  have hr1 : rn (2 + 3 * m) = 14 := if_neg (by omega)
  have hr3 : rn (3 + 3 * m) = 14 := if_neg (by omega)
  have hr2 : rn (4 + 3 * m) = 14 := if_neg (by omega)
  have p1 : 2 + 3 * m < 11 := by omega
  have p3 : 3 + 3 * m < 11 := by omega
  have p2 : 4 + 3 * m < 11 := by omega
  have hwr : Rg wy := by unfold Rg; omega
  unfold wX6_turnInput wX6_turnInput_b0
  refine ⟨m1, _, m3, _, m2, (row_ h p3).1, p_copyFrom h p3 p1 hr3 hr1 (by omega) (fun S4 h4 => ?_)⟩
  obtain ⟨a1, a2, a3, a4, a5, a6, a7, a8, a9, a10⟩ := mot_ h4 hm
  refine ⟨a1, _, a4, (row_ h4 p2).1, p_reset h4 p2 (fun S8 h8 => ?_)⟩
  obtain ⟨b1, b2, b3, b4, b5, b6, b7, b8, b9, b10⟩ := mot_ h8 hm
  rw [hr2] at h8
  refine ⟨b1, _, b4, (row_ h8 p2).1, ?_⟩
  have e24 : (24 : Int64) = i6 ((24 : Nat) : Int) := rfl
  rw [hx, e24]
  refine p_put h8 p2 (by omega) hwr (by unfold Rg; omega) (by decide) (fun S12 h12 => ?_)
  obtain ⟨c1, c2, c3, c4, c5, c6, c7, c8, c9, c10⟩ := mot_ h12 hm
  refine ⟨c1, _, c2, (row_ h12 p1).1, ?_⟩
  have X1 : XM m (30 + 2 * (2 + 3 * m)) ∧ XM m (31 + 2 * (2 + 3 * m)) ∧ XM m (30 + 2 * (3 + 3 * m)) ∧ XM m (31 + 2 * (3 + 3 * m)) ∧ XM m (30 + 2 * (4 + 3 * m)) ∧ XM m (31 + 2 * (4 + 3 * m)) := by
    unfold XM
    omega
  obtain ⟨x1, x2, x3, x4, x5, x6⟩ := X1
  have r3 := rowV_cpy (p := 3 + 3 * m) hP (by omega)
  have r1 := rowV_other (D' := (D.cpyJ (30 + 2 * (3 + 3 * m)) (30 + 2 * (2 + 3 * m)) 14).cpyJ (31 + 2 * (3 + 3 * m)) (31 + 2 * (2 + 3 * m)) 14) hP (cpy_AJ (by omega) (by omega)) (cpy_AJ (by omega) (by omega))
  have sm : SamJ (XM m) D ((D.cpyJ (30 + 2 * (3 + 3 * m)) (30 + 2 * (2 + 3 * m)) 14).cpyJ (31 + 2 * (3 + 3 * m)) (31 + 2 * (2 + 3 * m)) 14) := samJ_cpy x3 x4
  have mk0 : ((D.cpyJ (30 + 2 * (3 + 3 * m)) (30 + 2 * (2 + 3 * m)) 14).cpyJ (31 + 2 * (3 + 3 * m)) (31 + 2 * (2 + 3 * m)) 14).AJ (60 + m) = D.AJ (60 + m) := cpy_AJ (by omega) (by omega)
  generalize (D.cpyJ (30 + 2 * (3 + 3 * m)) (30 + 2 * (2 + 3 * m)) 14).cpyJ (31 + 2 * (3 + 3 * m)) (31 + 2 * (2 + 3 * m)) 14 = D1 at *
  have t3 := rowV_other (D' := (D1.fillJ (30 + 2 * (4 + 3 * m)) 14 0).fillJ (31 + 2 * (4 + 3 * m)) 14 1) r3 (fill_AJ (by omega) (by omega)) (fill_AJ (by omega) (by omega))
  have t1 := rowV_other (D' := (D1.fillJ (30 + 2 * (4 + 3 * m)) 14 0).fillJ (31 + 2 * (4 + 3 * m)) 14 1) r1 (fill_AJ (by omega) (by omega)) (fill_AJ (by omega) (by omega))
  have t2 := rowV_fill (D := D1) (p := 4 + 3 * m) (n := 14)
  have sm2 : SamJ (XM m) D ((D1.fillJ (30 + 2 * (4 + 3 * m)) 14 0).fillJ (31 + 2 * (4 + 3 * m)) 14 1) := sm.tr (samJ_fill x5 x6)
  have mk2 : ((D1.fillJ (30 + 2 * (4 + 3 * m)) 14 0).fillJ (31 + 2 * (4 + 3 * m)) 14 1).AJ (60 + m) = D.AJ (60 + m) := (fill_AJ (by omega) (by omega)).trans mk0
  generalize (D1.fillJ (30 + 2 * (4 + 3 * m)) 14 0).fillJ (31 + 2 * (4 + 3 * m)) 14 1 = D2 at *
  have u3 := rowV_put2 (i := inp) (q := Rat.divInt wy (24 : Nat)) t3 (show 3 + 3 * m ≠ 4 + 3 * m by omega)
  have u1 := rowV_put2 (i := inp) (q := Rat.divInt wy (24 : Nat)) t1 (show 2 + 3 * m ≠ 4 + 3 * m by omega)
  have u2 := rowV_put (i := inp) (q := Rat.divInt wy (24 : Nat)) t2
  obtain ⟨M1, M2, M3⟩ := pm_lt hG inp
  have bq := bd_bq M1 (hB inp)
  have hq := qn_le M3 (show n ≤ 24600 by omega)
  obtain ⟨d1, d2, -, -⟩ := dQ_pos hG 3 inp
  have bp : Bp (pm G nl inp) (qm G nl inp) wy 24 := by
    refine ⟨by decide, (dQ G nl 3 inp).1, rfl, ?_⟩
    have : wy.natAbs * (dQ G nl 3 inp).1 ≤ 1 * (dQ G nl 3 inp).1 := Nat.mul_le_mul_right _ hw
    unfold qm
    omega
  refine p_add h12 p1 (by omega) (u1 inp (by omega)) bq bp M1 (by omega) (by omega) (fun S16 h16 => kk S16 _ h16 ?_ ?_ ?_ ?_ ?_)
  · exact (sm2.tr (samJ_put x5 x6)).tr (samJ_put x1 x2)
  · exact rowV_put2 u3 (by omega)
  · exact rowV_congr (rowV_put2 u2 (by omega)) (fun i hi => rfl)
  · refine rowV_congr (rowV_put u1) (fun i hi => ?_)
    unfold vup bs
    by_cases c : i = inp
    · rw [if_pos c, if_pos c, c]
      rfl
    · rw [if_neg c, if_neg c, Rat.add_zero]
  · rw [putQ_AJ (by omega) (by omega), putQ_AJ (by omega) (by omega)]
    exact mk2
theorem p_takeStep {Φ : Hp → Prop} {ns m n inp : Nat} {lv : Nat → Nat} {ol : List Nat} {act : Nat → Bool} {P tn : Nat → Rat} {mk mk' : Nat → Int} {wy : Int} {x : Int32} (h : Rep A E ls nl nc nd S D) (hm : m < 3) (hC : LkC G nl D) (hG : GrOK ns nl G) (hL : Lev nl G lv) (hO : OlOK G nl ol) (hls : ls 1 = ol.map (fun k => A (400 + k)))
    (hP : RowV D (2 + 3 * m) 14 P) (hmk : ∀ k, k < nl → D.AJ (60 + m) k = i6 (mk k)) (hrm : ∀ k, k < nl → act k = true → Rg (mk k)) (hact : ∀ k, k < nl → D.AI (63 + m) k = bI (act k)) (hi : inp < ns) (hx : x.toInt64 = i6 wy) (hw : wy.natAbs ≤ 1)
    (hst : StepEq G nl act P mk inp wy tn mk') (hR : RI G nl act P mk) (hn : n ≤ 24560) (hB : BdP G nl n P)
    (kk : ∀ S' D', Rep A E ls nl nc nd S' D' → SamJ (XM m) D D' → RowV D' (3 + 3 * m) 14 P → RowV D' (4 + 3 * m) 14 tn → RowV D' (2 + 3 * m) 14 (fun s => P s + tn s) → (∀ k, k < nl → D'.AJ (60 + m) k = i6 (mk' k)) → Φ S') : wX7_takeStep S (A 0) (A (20 + m)) (nI inp) x Φ := by
  have htb := tn_bd hG hL hw hst hR
  have hnl := hG.2.1
  unfold wX7_takeStep wX7_takeStep_b0
  refine ⟨(mot_ h hm).1, p_turnInput h hm hG hP hi hx hw hn hB (fun S1 D1 h1 hs1 r3 r4 r2 hmk1 => ?_)⟩
  have e0 : bs inp wy = Td G act inp tn [] := by
    funext s
    unfold bs Td
    by_cases c : s = inp
    · rw [if_pos c, if_pos (by simp [c]), c, hst.1]
    · rw [if_neg c, if_neg (by simp [c])]
  rw [e0] at r4 r2
  refine it2_ex (fun j S2 v => v = nI j ∧ ∃ D2, Rep A E ls nl nc nd S2 D2 ∧ SamJ (XM m) D D2 ∧ RowV D2 (3 + 3 * m) 14 P ∧ RowV D2 (4 + 3 * m) 14 (Td G act inp tn (ol.take j)) ∧ RowV D2 (2 + 3 * m) 14 (fun s => P s + Td G act inp tn (ol.take j) s) ∧ ∀ k, k < nl → D2.AJ (60 + m) k = if k ∈ ol.take j ∧ act k = true then i6 (mk' k) else i6 (mk k)) ol.length ?_ ?_ ⟨rfl, D1, h1, hs1, r3, r4, r2, fun k hk => ?_⟩
  · rintro j hj S2 _ k9 ⟨rfl, D2, h2, hs2, q3, q4, q2, hmk2⟩ hk9
    have hol := hO.1
    have hel : ol[j]? = some ol[j] := List.getElem?_eq_getElem hj
    generalize ol[j] = k at hel
    obtain ⟨hk, hnot, hsrc⟩ := hO.2.2 j k hel
    have hgk := hG.2.2.1 k hk
    have hC2 := lkC_sam hC hs2.1
    have lk := lkS_of h2 hC2 hk (by omega)
    have fr449 := rep_fr h2 (449, 0, 2) (by decide)
    have hlen : (ls 1).length = ol.length := by rw [hls, List.length_map]
    unfold wX7_takeStep_b9
    refine ⟨c_is h2, A (1 + 1), fr449, ls_is h2 (by decide), p_size h2 (j := 1) (by decide) (if_n ?_ ⟨c_is h2, A (1 + 1), fr449, ls_is h2 (by decide), p_get (x := A (400 + k)) h2 (j := 1) (by decide) ?_ ⟨A (400 + k), rfl, lk.1, (mot_ h2 hm).1, ?_⟩⟩)⟩
    · rw [hlen]
      exact nI_ge hj (by omega)
    · rw [hls, List.getElem?_map, hel]
      rfl
    have hmkk := hmk2 k hk
    rw [if_neg (fun q => hnot q.1)] at hmkk
    refine p_follow (n := n) h2 hm hC2 hG hL hk q3 q4 q2 hmkk (hrm k hk) (by rw [hs2.2.2.1]; exact hact k hk) hst hR hn hB htb (fun ha => ?_) (fun ha => ?_) (fun ha hp => ?_) (td_bd htb) (fun ha => ?_) (fun S3 D3 ha h3 hs3 w3 w4 w2 hmk3 => ?_)
    · unfold Td
      refine if_neg (fun q => ?_)
      simp only [Bool.or_eq_true, decide_eq_true_eq, List.any_eq_true, Bool.and_eq_true] at q
      rcases q with q | ⟨k', q1, q2', q3'⟩
      · exact (hst.2.2.1 k hk ha).1 q
      · obtain ⟨j', hj'⟩ := List.getElem?_of_mem (List.mem_of_mem_take q1)
        have := hG.2.2.2 k' k (hO.2.2 j' k' hj').1 hk q3'
        rw [this] at q1
        exact hnot q1
    · exact td_all hst (fun k' hk' e => hsrc k' hk' (Or.inl e))
    · exact td_all hst (fun k' hk' e => hsrc k' hk' (Or.inr ⟨hp, e⟩))
    · rw [← nI_succ]
      refine hk9 _ _ ⟨rfl, D2, h2, hs2, q3, ?_, ?_, fun k' hk' => ?_⟩
      · rw [take_succ hel, td_succ, if_neg (by rw [ha]; decide)]
        exact q4
      · rw [take_succ hel, td_succ, if_neg (by rw [ha]; decide)]
        exact q2
      · rw [hmk2 k' hk', take_succ hel]
        by_cases c : k' ∈ ol.take j ∧ act k' = true
        · rw [if_pos c, if_pos ⟨List.mem_append_left _ c.1, c.2⟩]
        · rw [if_neg c, if_neg (fun q => ?_)]
          rcases List.mem_append.mp q.1 with q1 | q1
          · exact c ⟨q1, q.2⟩
          · rw [List.mem_singleton.mp q1, ha] at q
            exact absurd q.2 (by decide)
    · rw [← nI_succ]
      refine hk9 _ _ ⟨rfl, D3, h3, hs2.tr hs3, w3, ?_, ?_, fun k' hk' => ?_⟩
      · rw [take_succ hel, td_succ, if_pos ha]
        exact w4
      · rw [take_succ hel, td_succ, if_pos ha]
        exact w2
      · rw [hmk3 k', take_succ hel]
        by_cases c0 : k' = k
        · rw [if_pos c0, c0, if_pos ⟨List.mem_append_right _ (List.mem_singleton.mpr rfl), ha⟩]
        · rw [if_neg c0, hmk2 k' hk']
          by_cases c : k' ∈ ol.take j ∧ act k' = true
          · rw [if_pos c, if_pos ⟨List.mem_append_left _ c.1, c.2⟩]
          · rw [if_neg c, if_neg (fun q => ?_)]
            rcases List.mem_append.mp q.1 with q1 | q1
            · exact c ⟨q1, q.2⟩
            · exact c0 (List.mem_singleton.mp q1)
  · rintro S2 _ k9 ⟨rfl, D2, h2, hs2, q3, q4, q2, hmk2⟩
    have hol := hO.1
    have fr449 := rep_fr h2 (449, 0, 2) (by decide)
    have hlen : (ls 1).length = ol.length := by rw [hls, List.length_map]
    rw [List.take_length] at q4 q2 hmk2
    have eT : Td G act inp tn ol = tn := by
      funext s
      exact td_all hst (fun k hk _ => hO.2.1 k hk)
    rw [eT] at q4 q2
    unfold wX7_takeStep_b9
    refine ⟨c_is h2, A (1 + 1), fr449, ls_is h2 (by decide), p_size h2 (j := 1) (by decide) (if_p ?_ (kk S2 D2 h2 hs2 q3 q4 q2 (fun k hk => ?_)))⟩
    · rw [hlen]
      exact nI_le (Nat.le_refl _) (by omega)
    · rw [hmk2 k hk]
      by_cases ha : act k = true
      · rw [if_pos ⟨hO.2.1 k hk, ha⟩]
      · rw [if_neg (fun q => ha q.2), hst.2.2.2 k (fun q => ha q.2)]
  · rw [hmk1, hmk k hk, if_neg (fun q => by simp at q)]
end TS9
